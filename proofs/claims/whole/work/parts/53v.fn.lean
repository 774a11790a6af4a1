/-! The methods as functions, and that the machine goes so (printed by wip/gen/fgen.py). -/
set_option maxRecDepth 100000
set_option linter.unusedVariables false
-- PaperParcelsModel.compare()I
abbrev zM210 : ev_M := (am_in nd_i210, am_fl nd_f11, am_ct nd_k11, am_sl nd_ml nd_s210, fun _ => none, some .int)
noncomputable def zf210_69 (a0 : Nat)  : Nat → Int32 → zS → Option (Int32 × zS)
  | 0, _, _ => none
  | n + 1, x1, s =>
    if x1 < 0 then
      zal s (zrf a0 38) 0 fun v1 =>
      some (v1, s)
    else
      zbi (zf219 a0 x1 s) fun v2 s3 =>
      if v2 = 0 then
        zf210_69 a0 n (x1 - 1) s3
      else
        zf210_69 a0 n (x1 + 1) s3
theorem zf210_69_ok {K : cx_K} (hK : Kok K) {lg : Nat → Int64} {v : Int32} {s' : zS} {a0 : Nat} (h0 : zsh a0 = 11)   {n : Nat} : ∀ {x1 : Int32} {s : zS}, zf210_69 a0 n x1 s = some (v, s') → Ev K zM210 (69, [some (.ref a0), some (.int x1)], [], zmk lg s) 0 (.inl (some (.int v))) (zmk lg s') 0 := by
  induction n with
  | zero => intro x1 s hF; rw [zf210_69] at hF; cases hF
  | succ n ih =>
    intro x1 s hF
    rw [zf210_69] at hF
    refine Ev_p 1 (c' := (70, [some (.ref a0), some (.int x1)], [.int x1])) rfl ?_
    refine Ez_if (M := zM210) (b := x1 < 0) rfl rfl hF (fun _ hF => ?_) (fun _ hF => ?_)
    · refine Ev_p 1 (c' := (95, [some (.ref a0), some (.int x1)], [.ref a0])) rfl ?_
      refine Ez_gr (M := zM210) (ci := 11) (f := 38) (t := 100) rfl rfl h0 rfl ?_
      refine Ev_p 1 (c' := (99, [some (.ref a0), some (.int x1)], [.int 0, .ref (zrf a0 38)])) rfl ?_
      refine Ez_al (M := zM210) rfl (zty (ci := 11) (f := 38) (t := 100) h0 rfl) hF (fun v1 hF => ?_)
      refine Ev_p 0 (c' := (100, [some (.ref a0), some (.int x1)], [.int v1])) rfl ?_
      exact Ez_ri (M := zM210) rfl rfl hF
    · refine Ev_p 2 (c' := (75, [some (.ref a0), some (.int x1)], [.int x1, .ref a0])) rfl ?_
      refine Ez_ci (M := zM210) (As := [.ref a0, .int x1]) (st' := []) (am_site_v (y := 219) (k := 2) (ci := 11) rfl rfl (zrcv rfl h0 rfl)) (Nat.le_of_ble_eq_true rfl) (Nat.le_of_ble_eq_true rfl) rfl rfl (fun _ _ hF => zf219_ok hK h0 hF) hF (fun v2 s3 hF => ?_)
      refine Ev_p 0 (c' := (78, [some (.ref a0), some (.int x1)], [.int v2])) rfl ?_
      refine Ez_if (M := zM210) (b := v2 = 0) rfl rfl hF (fun _ hF => ?_) (fun _ hF => ?_)
      · refine Ev_p 5 (c' := (69, [some (.ref a0), some (.int (x1 - 1))], [])) rfl ?_
        exact ih hF
      · refine Ev_p 6 (c' := (69, [some (.ref a0), some (.int (x1 + 1))], [])) rfl ?_
        exact ih hF
noncomputable def zf210_24 (a0 : Nat)  (t0 : Int32) (s : zS) : Option (Int32 × zS) :=
  zpf s a0 0 t0 fun s1 =>
  zgf s1 a0 0 fun v2 =>
  if v2 ≤ 0 then
    zbv (zf211 a0 0 s1) fun s4 =>
    zbv (zf211 a0 1 s4) fun s6 =>
    zbv (zf212 a0 s6) fun s8 =>
    zpf s8 a0 32 0 fun s9 =>
    zpb s9 a0 31 1 fun s10 =>
    zbv (zf217 a0 0 0 0 s10) fun s12 =>
    zf210_69 a0 zfz 0 s12
  else
    some (0, s1)
theorem zf210_24_ok {K : cx_K} (hK : Kok K) {lg : Nat → Int64} {v : Int32} {s' : zS} {a0 : Nat} (h0 : zsh a0 = 11)   {t0 : Int32}  {s : zS} (hF : zf210_24 a0 t0 s = some (v, s')) : Ev K zM210 (24, [some (.ref a0), none], [.int t0, .ref a0], zmk lg s) 0 (.inl (some (.int v))) (zmk lg s') 0 := by
  unfold zf210_24 at hF
  refine Ev_p 0 (c' := (24, [some (.ref a0), none], [.int t0, .ref a0])) rfl ?_
  refine Ez_pf (M := zM210) (ci := 11) (f := 0) rfl rfl h0 rfl hF (fun s1 hF => ?_)
  refine Ev_p 1 (c' := (28, [some (.ref a0), none], [.ref a0])) rfl ?_
  refine Ez_gf (M := zM210) (ci := 11) (f := 0) rfl rfl h0 rfl hF (fun v2 hF => ?_)
  refine Ev_p 0 (c' := (31, [some (.ref a0), none], [.int v2])) rfl ?_
  refine Ez_if (M := zM210) (b := v2 ≤ 0) rfl rfl hF (fun _ hF => ?_) (fun _ hF => ?_)
  · refine Ev_p 2 (c' := (38, [some (.ref a0), none], [.int 0, .ref a0])) rfl ?_
    refine Ez_cv (M := zM210) (As := [.ref a0, .int 0]) (st' := []) (am_site_v (y := 211) (k := 2) (ci := 11) rfl rfl (zrcv rfl h0 rfl)) (Nat.le_of_ble_eq_true rfl) (Nat.le_of_ble_eq_true rfl) rfl rfl (fun _ hF => zf211_ok hK h0 hF) hF (fun s4 hF => ?_)
    refine Ev_p 2 (c' := (43, [some (.ref a0), none], [.int 1, .ref a0])) rfl ?_
    refine Ez_cv (M := zM210) (As := [.ref a0, .int 1]) (st' := []) (am_site_v (y := 211) (k := 2) (ci := 11) rfl rfl (zrcv rfl h0 rfl)) (Nat.le_of_ble_eq_true rfl) (Nat.le_of_ble_eq_true rfl) rfl rfl (fun _ hF => zf211_ok hK h0 hF) hF (fun s6 hF => ?_)
    refine Ev_p 1 (c' := (47, [some (.ref a0), none], [.ref a0])) rfl ?_
    refine Ez_cv (M := zM210) (As := [.ref a0]) (st' := []) (am_site_v (y := 212) (k := 1) (ci := 11) rfl rfl (zrcv rfl h0 rfl)) (Nat.le_of_ble_eq_true rfl) (Nat.le_of_ble_eq_true rfl) rfl rfl (fun _ hF => zf212_ok hK h0 hF) hF (fun s8 hF => ?_)
    refine Ev_p 2 (c' := (52, [some (.ref a0), none], [.int 0, .ref a0])) rfl ?_
    refine Ez_pf (M := zM210) (ci := 11) (f := 32) rfl rfl h0 rfl hF (fun s9 hF => ?_)
    refine Ev_p 2 (c' := (57, [some (.ref a0), none], [.int 1, .ref a0])) rfl ?_
    refine Ez_pb (M := zM210) (ci := 11) (f := 31) rfl rfl h0 rfl hF (fun s10 hF => ?_)
    refine Ev_p 4 (c' := (64, [some (.ref a0), none], [.int 0, .int 0, .int 0, .ref a0])) rfl ?_
    refine Ez_cv (M := zM210) (As := [.ref a0, .int 0, .int 0, .int 0]) (st' := []) (am_site_v (y := 217) (k := 4) (ci := 11) rfl rfl (zrcv rfl h0 rfl)) (Nat.le_of_ble_eq_true rfl) (Nat.le_of_ble_eq_true rfl) rfl rfl (fun _ hF => zf217_ok hK h0 hF) hF (fun s12 hF => ?_)
    refine Ev_p 2 (c' := (69, [some (.ref a0), some (.int 0)], [])) rfl ?_
    exact zf210_69_ok hK h0 hF
  · refine Ev_p 1 (c' := (35, [some (.ref a0), none], [.int 0])) rfl ?_
    exact Ez_ri (M := zM210) rfl rfl hF
noncomputable def zf210 (a0 : Nat) (s : zS) : Option (Int32 × zS) :=
  zal s (zrf a0 22) 0 fun v1 =>
  if v1 = 0 then
    zf210_24 a0 1 s
  else
    zal s (zrf a0 22) 1 fun v2 =>
    if ¬ v2 = 0 then
      zf210_24 a0 0 s
    else
      zf210_24 a0 1 s
theorem zf210_ok {K : cx_K} (hK : Kok K) {lg : Nat → Int64} {v : Int32} {s' : zS} {a0 : Nat} (h0 : zsh a0 = 11)  {s : zS} (hF : zf210 a0 s = some (v, s')) : Ct K 210 [.ref a0] (zmk lg s) (.inl (some (.int v))) (zmk lg s') 0 := by
  unfold zf210 at hF
  refine Ct_of hK nd_ok210 (mL := 2) (rt := some .int) rfl rfl (Nat.le_of_ble_eq_true rfl) zlen_le ?_
  refine Ev_p 2 (c' := (2, [some (.ref a0), none], [.ref a0, .ref a0])) rfl ?_
  refine Ez_gr (M := zM210) (ci := 11) (f := 22) (t := 100) rfl rfl h0 rfl ?_
  refine Ev_p 1 (c' := (6, [some (.ref a0), none], [.int 0, .ref (zrf a0 22), .ref a0])) rfl ?_
  refine Ez_al (M := zM210) rfl (zty (ci := 11) (f := 22) (t := 100) h0 rfl) hF (fun v1 hF => ?_)
  refine Ev_p 0 (c' := (7, [some (.ref a0), none], [.int v1, .ref a0])) rfl ?_
  refine Ez_if (M := zM210) (b := v1 = 0) rfl rfl hF (fun _ hF => ?_) (fun _ hF => ?_)
  · refine Ev_p 2 (c' := (24, [some (.ref a0), none], [.int 1, .ref a0])) rfl ?_
    exact zf210_24_ok hK h0 hF
  · refine Ev_p 1 (c' := (11, [some (.ref a0), none], [.ref a0, .ref a0])) rfl ?_
    refine Ez_gr (M := zM210) (ci := 11) (f := 22) (t := 100) rfl rfl h0 rfl ?_
    refine Ev_p 1 (c' := (15, [some (.ref a0), none], [.int 1, .ref (zrf a0 22), .ref a0])) rfl ?_
    refine Ez_al (M := zM210) rfl (zty (ci := 11) (f := 22) (t := 100) h0 rfl) hF (fun v2 hF => ?_)
    refine Ev_p 0 (c' := (16, [some (.ref a0), none], [.int v2, .ref a0])) rfl ?_
    refine Ez_if (M := zM210) (b := ¬ v2 = 0) rfl rfl hF (fun _ hF => ?_) (fun _ hF => ?_)
    · refine Ev_p 1 (c' := (24, [some (.ref a0), none], [.int 0, .ref a0])) rfl ?_
      exact zf210_24_ok hK h0 hF
    · refine Ev_p 2 (c' := (24, [some (.ref a0), none], [.int 1, .ref a0])) rfl ?_
      exact zf210_24_ok hK h0 hF
-- PaperParcelsModel.steps()I
abbrev zM220 : ev_M := (am_in nd_i220, am_fl nd_f11, am_ct nd_k11, am_sl nd_ml nd_s220, fun _ => none, some .int)
noncomputable def zf220 (a0 : Nat) (s : zS) : Option (Int32 × zS) :=
  zpf s a0 0 0 fun s1 =>
  zgf s1 a0 31 fun v2 =>
  if v2 = 0 then
    some (0, s1)
  else
    zgf s1 a0 32 fun v3 =>
    some (v3, s1)
theorem zf220_ok {K : cx_K} (hK : Kok K) {lg : Nat → Int64} {v : Int32} {s' : zS} {a0 : Nat} (h0 : zsh a0 = 11)  {s : zS} (hF : zf220 a0 s = some (v, s')) : Ct K 220 [.ref a0] (zmk lg s) (.inl (some (.int v))) (zmk lg s') 0 := by
  unfold zf220 at hF
  refine Ct_of hK nd_ok220 (mL := 1) (rt := some .int) rfl rfl (Nat.le_of_ble_eq_true rfl) zlen_le ?_
  refine Ev_p 2 (c' := (2, [some (.ref a0)], [.int 0, .ref a0])) rfl ?_
  refine Ez_pf (M := zM220) (ci := 11) (f := 0) rfl rfl h0 rfl hF (fun s1 hF => ?_)
  refine Ev_p 1 (c' := (6, [some (.ref a0)], [.ref a0])) rfl ?_
  refine Ez_gf (M := zM220) (ci := 11) (f := 31) rfl rfl h0 rfl hF (fun v2 hF => ?_)
  refine Ev_p 0 (c' := (9, [some (.ref a0)], [.int v2])) rfl ?_
  refine Ez_if (M := zM220) (b := v2 = 0) rfl rfl hF (fun _ hF => ?_) (fun _ hF => ?_)
  · refine Ev_p 1 (c' := (20, [some (.ref a0)], [.int 0])) rfl ?_
    exact Ez_ri (M := zM220) rfl rfl hF
  · refine Ev_p 1 (c' := (13, [some (.ref a0)], [.ref a0])) rfl ?_
    refine Ez_gf (M := zM220) (ci := 11) (f := 32) rfl rfl h0 rfl hF (fun v3 hF => ?_)
    refine Ev_p 1 (c' := (20, [some (.ref a0)], [.int v3])) rfl ?_
    exact Ez_ri (M := zM220) rfl rfl hF
-- PaperParcelsModel.step(IZ)I
abbrev zM221 : ev_M := (am_in nd_i221, am_fl nd_f11, am_ct nd_k11, am_sl nd_ml nd_s221, fun _ => none, some .int)
noncomputable def zf221_25 (a0 : Nat)  (x1 : Int32) (x2 : Int32) (t0 : Int32) (s : zS) : Option (Int32 × zS) :=
  zpf s a0 0 t0 fun s1 =>
  zgf s1 a0 0 fun v2 =>
  if v2 ≤ 0 then
    if x2 = 0 then
      zal s1 (zrf a0 33) x1 fun v3 =>
      some (v3, s1)
    else
      zal s1 (zrf a0 34) x1 fun v4 =>
      some (v4, s1)
  else
    some (0, s1)
theorem zf221_25_ok {K : cx_K} (hK : Kok K) {lg : Nat → Int64} {v : Int32} {s' : zS} {a0 : Nat} (h0 : zsh a0 = 11)   {x1 : Int32} {x2 : Int32} {t0 : Int32}  {s : zS} (hF : zf221_25 a0 x1 x2 t0 s = some (v, s')) : Ev K zM221 (25, [some (.ref a0), some (.int x1), some (.int x2)], [.int t0, .ref a0], zmk lg s) 0 (.inl (some (.int v))) (zmk lg s') 0 := by
  unfold zf221_25 at hF
  refine Ev_p 0 (c' := (25, [some (.ref a0), some (.int x1), some (.int x2)], [.int t0, .ref a0])) rfl ?_
  refine Ez_pf (M := zM221) (ci := 11) (f := 0) rfl rfl h0 rfl hF (fun s1 hF => ?_)
  refine Ev_p 1 (c' := (29, [some (.ref a0), some (.int x1), some (.int x2)], [.ref a0])) rfl ?_
  refine Ez_gf (M := zM221) (ci := 11) (f := 0) rfl rfl h0 rfl hF (fun v2 hF => ?_)
  refine Ev_p 0 (c' := (32, [some (.ref a0), some (.int x1), some (.int x2)], [.int v2])) rfl ?_
  refine Ez_if (M := zM221) (b := v2 ≤ 0) rfl rfl hF (fun _ hF => ?_) (fun _ hF => ?_)
  · refine Ev_p 1 (c' := (40, [some (.ref a0), some (.int x1), some (.int x2)], [.int x2])) rfl ?_
    refine Ez_if (M := zM221) (b := x2 = 0) rfl rfl hF (fun _ hF => ?_) (fun _ hF => ?_)
    · refine Ev_p 1 (c' := (53, [some (.ref a0), some (.int x1), some (.int x2)], [.ref a0])) rfl ?_
      refine Ez_gr (M := zM221) (ci := 11) (f := 33) (t := 100) rfl rfl h0 rfl ?_
      refine Ev_p 1 (c' := (57, [some (.ref a0), some (.int x1), some (.int x2)], [.int x1, .ref (zrf a0 33)])) rfl ?_
      refine Ez_al (M := zM221) rfl (zty (ci := 11) (f := 33) (t := 100) h0 rfl) hF (fun v3 hF => ?_)
      refine Ev_p 0 (c' := (58, [some (.ref a0), some (.int x1), some (.int x2)], [.int v3])) rfl ?_
      exact Ez_ri (M := zM221) rfl rfl hF
    · refine Ev_p 1 (c' := (44, [some (.ref a0), some (.int x1), some (.int x2)], [.ref a0])) rfl ?_
      refine Ez_gr (M := zM221) (ci := 11) (f := 34) (t := 100) rfl rfl h0 rfl ?_
      refine Ev_p 1 (c' := (48, [some (.ref a0), some (.int x1), some (.int x2)], [.int x1, .ref (zrf a0 34)])) rfl ?_
      refine Ez_al (M := zM221) rfl (zty (ci := 11) (f := 34) (t := 100) h0 rfl) hF (fun v4 hF => ?_)
      refine Ev_p 1 (c' := (58, [some (.ref a0), some (.int x1), some (.int x2)], [.int v4])) rfl ?_
      exact Ez_ri (M := zM221) rfl rfl hF
  · refine Ev_p 2 (c' := (58, [some (.ref a0), some (.int x1), some (.int x2)], [.int 0])) rfl ?_
    exact Ez_ri (M := zM221) rfl rfl hF
noncomputable def zf221 (a0 : Nat) (x1 : Int32) (x2 : Int32) (s : zS) : Option (Int32 × zS) :=
  if x1 < 0 then
    zf221_25 a0 x1 x2 1 s
  else
    zgf s a0 31 fun v1 =>
    if v1 = 0 then
      zf221_25 a0 x1 x2 1 s
    else
      zgf s a0 32 fun v2 =>
      if x1 < v2 then
        zf221_25 a0 x1 x2 0 s
      else
        zf221_25 a0 x1 x2 1 s
theorem zf221_ok {K : cx_K} (hK : Kok K) {lg : Nat → Int64} {v : Int32} {s' : zS} {a0 : Nat} (h0 : zsh a0 = 11) {x1 : Int32} {x2 : Int32} {s : zS} (hF : zf221 a0 x1 x2 s = some (v, s')) : Ct K 221 [.ref a0, .int x1, .int x2] (zmk lg s) (.inl (some (.int v))) (zmk lg s') 0 := by
  unfold zf221 at hF
  refine Ct_of hK nd_ok221 (mL := 3) (rt := some .int) rfl rfl (Nat.le_of_ble_eq_true rfl) zlen_le ?_
  refine Ev_p 2 (c' := (2, [some (.ref a0), some (.int x1), some (.int x2)], [.int x1, .ref a0])) rfl ?_
  refine Ez_if (M := zM221) (b := x1 < 0) rfl rfl hF (fun _ hF => ?_) (fun _ hF => ?_)
  · refine Ev_p 2 (c' := (25, [some (.ref a0), some (.int x1), some (.int x2)], [.int 1, .ref a0])) rfl ?_
    exact zf221_25_ok hK h0 hF
  · refine Ev_p 1 (c' := (6, [some (.ref a0), some (.int x1), some (.int x2)], [.ref a0, .ref a0])) rfl ?_
    refine Ez_gf (M := zM221) (ci := 11) (f := 31) rfl rfl h0 rfl hF (fun v1 hF => ?_)
    refine Ev_p 0 (c' := (9, [some (.ref a0), some (.int x1), some (.int x2)], [.int v1, .ref a0])) rfl ?_
    refine Ez_if (M := zM221) (b := v1 = 0) rfl rfl hF (fun _ hF => ?_) (fun _ hF => ?_)
    · refine Ev_p 2 (c' := (25, [some (.ref a0), some (.int x1), some (.int x2)], [.int 1, .ref a0])) rfl ?_
      exact zf221_25_ok hK h0 hF
    · refine Ev_p 2 (c' := (14, [some (.ref a0), some (.int x1), some (.int x2)], [.ref a0, .int x1, .ref a0])) rfl ?_
      refine Ez_gf (M := zM221) (ci := 11) (f := 32) rfl rfl h0 rfl hF (fun v2 hF => ?_)
      refine Ev_p 0 (c' := (17, [some (.ref a0), some (.int x1), some (.int x2)], [.int v2, .int x1, .ref a0])) rfl ?_
      refine Ez_if (M := zM221) (b := x1 < v2) rfl rfl hF (fun _ hF => ?_) (fun _ hF => ?_)
      · refine Ev_p 1 (c' := (25, [some (.ref a0), some (.int x1), some (.int x2)], [.int 0, .ref a0])) rfl ?_
        exact zf221_25_ok hK h0 hF
      · refine Ev_p 2 (c' := (25, [some (.ref a0), some (.int x1), some (.int x2)], [.int 1, .ref a0])) rfl ?_
        exact zf221_25_ok hK h0 hF
-- PaperParcelsModel.mark(I)V
abbrev zM223 : ev_M := (am_in nd_i223, am_fl nd_f11, am_ct nd_k11, am_sl nd_ml nd_s223, fun _ => none, none)
noncomputable def zf223_93 (a0 : Nat) (k2 : Int32 → Int32 → zS → Option (zS)) (k50 : Int32 → Int32 → Int32 → zS → Option (zS)) (x1 : Int32) (x2 : Int32) (x3 : Int32) (t0 : Int32) (t1 : Int32) (s : zS) : Option (zS) :=
  zbs s (zrf a0 48) t1 t0 fun s1 =>
  zal s1 (zrf a0 33) x3 fun v2 =>
  if ¬ v2 = x2 then
    zal s1 (zrf a0 49) x2 fun v3 =>
    zas s1 (zrf a0 49) x2 v3 fun s4 =>
    k50 x1 x2 (x3 + 1) s4
  else
    zal s1 (zrf a0 34) x3 fun v5 =>
    zas s1 (zrf a0 49) x2 v5 fun s6 =>
    k50 x1 x2 (x3 + 1) s6
theorem zf223_93_ok {K : cx_K} (hK : Kok K) {lg : Nat → Int64} {s' : zS} {a0 : Nat} (h0 : zsh a0 = 11) {k2 : Int32 → Int32 → zS → Option (zS)} {k50 : Int32 → Int32 → Int32 → zS → Option (zS)} (hk2 : ∀ x1 x2 s, k2 x1 x2 s = some s' → Ev K zM223 (2, [some (.ref a0), some (.int x1), some (.int x2), none], [], zmk lg s) 0 (.inl none) (zmk lg s') 0) (hk50 : ∀ x1 x2 x3 s, k50 x1 x2 x3 s = some s' → Ev K zM223 (50, [some (.ref a0), some (.int x1), some (.int x2), some (.int x3)], [], zmk lg s) 0 (.inl none) (zmk lg s') 0) {x1 : Int32} {x2 : Int32} {x3 : Int32} {t0 : Int32} {t1 : Int32}  {s : zS} (hF : zf223_93 a0 k2 k50 x1 x2 x3 t0 t1 s = some s') : Ev K zM223 (93, [some (.ref a0), some (.int x1), some (.int x2), some (.int x3)], [.int t0, .int t1, .ref (zrf a0 48)], zmk lg s) 0 (.inl none) (zmk lg s') 0 := by
  unfold zf223_93 at hF
  refine Ev_p 0 (c' := (93, [some (.ref a0), some (.int x1), some (.int x2), some (.int x3)], [.int t0, .int t1, .ref (zrf a0 48)])) rfl ?_
  refine Ez_bs (M := zM223) rfl (zty (ci := 11) (f := 48) (t := 101) h0 rfl) hF (fun s1 hF => ?_)
  refine Ev_p 1 (c' := (95, [some (.ref a0), some (.int x1), some (.int x2), some (.int x3)], [.ref a0])) rfl ?_
  refine Ez_gr (M := zM223) (ci := 11) (f := 49) (t := 100) rfl rfl h0 rfl ?_
  refine Ev_p 2 (c' := (100, [some (.ref a0), some (.int x1), some (.int x2), some (.int x3)], [.ref a0, .int x2, .ref (zrf a0 49)])) rfl ?_
  refine Ez_gr (M := zM223) (ci := 11) (f := 33) (t := 100) rfl rfl h0 rfl ?_
  refine Ev_p 1 (c' := (104, [some (.ref a0), some (.int x1), some (.int x2), some (.int x3)], [.int x3, .ref (zrf a0 33), .int x2, .ref (zrf a0 49)])) rfl ?_
  refine Ez_al (M := zM223) rfl (zty (ci := 11) (f := 33) (t := 100) h0 rfl) hF (fun v2 hF => ?_)
  refine Ev_p 1 (c' := (106, [some (.ref a0), some (.int x1), some (.int x2), some (.int x3)], [.int x2, .int v2, .int x2, .ref (zrf a0 49)])) rfl ?_
  refine Ez_if (M := zM223) (b := ¬ v2 = x2) rfl rfl hF (fun _ hF => ?_) (fun _ hF => ?_)
  · refine Ev_p 1 (c' := (119, [some (.ref a0), some (.int x1), some (.int x2), some (.int x3)], [.ref a0, .int x2, .ref (zrf a0 49)])) rfl ?_
    refine Ez_gr (M := zM223) (ci := 11) (f := 49) (t := 100) rfl rfl h0 rfl ?_
    refine Ev_p 1 (c' := (123, [some (.ref a0), some (.int x1), some (.int x2), some (.int x3)], [.int x2, .ref (zrf a0 49), .int x2, .ref (zrf a0 49)])) rfl ?_
    refine Ez_al (M := zM223) rfl (zty (ci := 11) (f := 49) (t := 100) h0 rfl) hF (fun v3 hF => ?_)
    refine Ev_p 0 (c' := (124, [some (.ref a0), some (.int x1), some (.int x2), some (.int x3)], [.int v3, .int x2, .ref (zrf a0 49)])) rfl ?_
    refine Ez_as (M := zM223) rfl (zty (ci := 11) (f := 49) (t := 100) h0 rfl) hF (fun s4 hF => ?_)
    refine Ev_p 2 (c' := (50, [some (.ref a0), some (.int x1), some (.int x2), some (.int (x3 + 1))], [])) rfl ?_
    exact hk50 _ _ _ _ hF
  · refine Ev_p 1 (c' := (110, [some (.ref a0), some (.int x1), some (.int x2), some (.int x3)], [.ref a0, .int x2, .ref (zrf a0 49)])) rfl ?_
    refine Ez_gr (M := zM223) (ci := 11) (f := 34) (t := 100) rfl rfl h0 rfl ?_
    refine Ev_p 1 (c' := (114, [some (.ref a0), some (.int x1), some (.int x2), some (.int x3)], [.int x3, .ref (zrf a0 34), .int x2, .ref (zrf a0 49)])) rfl ?_
    refine Ez_al (M := zM223) rfl (zty (ci := 11) (f := 34) (t := 100) h0 rfl) hF (fun v5 hF => ?_)
    refine Ev_p 1 (c' := (124, [some (.ref a0), some (.int x1), some (.int x2), some (.int x3)], [.int v5, .int x2, .ref (zrf a0 49)])) rfl ?_
    refine Ez_as (M := zM223) rfl (zty (ci := 11) (f := 49) (t := 100) h0 rfl) hF (fun s6 hF => ?_)
    refine Ev_p 2 (c' := (50, [some (.ref a0), some (.int x1), some (.int x2), some (.int (x3 + 1))], [])) rfl ?_
    exact hk50 _ _ _ _ hF
noncomputable def zf223_50 (a0 : Nat) (k2 : Int32 → Int32 → zS → Option (zS)) : Nat → Int32 → Int32 → Int32 → zS → Option (zS)
  | 0, _, _, _, _ => none
  | n + 1, x1, x2, x3, s =>
    if x1 ≤ x3 then
      k2 x1 (x2 + 1) s
    else
      zal s (zrf a0 48) x2 fun v1 =>
      if ¬ v1 = 0 then
        zf223_93 a0 k2 (zf223_50 a0 k2 n) x1 x2 x3 1 x2 s
      else
        zal s (zrf a0 33) x3 fun v2 =>
        if ¬ v2 = x2 then
          zf223_93 a0 k2 (zf223_50 a0 k2 n) x1 x2 x3 0 x2 s
        else
          zal s (zrf a0 34) x3 fun v3 =>
          if 0 ≤ v3 then
            zf223_93 a0 k2 (zf223_50 a0 k2 n) x1 x2 x3 0 x2 s
          else
            zf223_93 a0 k2 (zf223_50 a0 k2 n) x1 x2 x3 1 x2 s
theorem zf223_50_ok {K : cx_K} (hK : Kok K) {lg : Nat → Int64} {s' : zS} {a0 : Nat} (h0 : zsh a0 = 11) {k2 : Int32 → Int32 → zS → Option (zS)} (hk2 : ∀ x1 x2 s, k2 x1 x2 s = some s' → Ev K zM223 (2, [some (.ref a0), some (.int x1), some (.int x2), none], [], zmk lg s) 0 (.inl none) (zmk lg s') 0) {n : Nat} : ∀ {x1 : Int32} {x2 : Int32} {x3 : Int32} {s : zS}, zf223_50 a0 k2 n x1 x2 x3 s = some s' → Ev K zM223 (50, [some (.ref a0), some (.int x1), some (.int x2), some (.int x3)], [], zmk lg s) 0 (.inl none) (zmk lg s') 0 := by
  induction n with
  | zero => intro x1 x2 x3 s hF; rw [zf223_50] at hF; cases hF
  | succ n ih =>
    intro x1 x2 x3 s hF
    rw [zf223_50] at hF
    refine Ev_p 2 (c' := (52, [some (.ref a0), some (.int x1), some (.int x2), some (.int x3)], [.int x1, .int x3])) rfl ?_
    refine Ez_if (M := zM223) (b := x1 ≤ x3) rfl rfl hF (fun _ hF => ?_) (fun _ hF => ?_)
    · refine Ev_p 2 (c' := (2, [some (.ref a0), some (.int x1), some (.int (x2 + 1)), some (.int x3)], [])) rfl ?_
      refine Ev_w (L' := [some (.ref a0), some (.int x1), some (.int (x2 + 1)), none]) (zle_c (zle_c (zle_c (zle_n zle_0)))) ?_
      exact hk2 _ _ _ hF
    · refine Ev_p 1 (c' := (56, [some (.ref a0), some (.int x1), some (.int x2), some (.int x3)], [.ref a0])) rfl ?_
      refine Ez_gr (M := zM223) (ci := 11) (f := 48) (t := 101) rfl rfl h0 rfl ?_
      refine Ev_p 2 (c' := (61, [some (.ref a0), some (.int x1), some (.int x2), some (.int x3)], [.ref a0, .int x2, .ref (zrf a0 48)])) rfl ?_
      refine Ez_gr (M := zM223) (ci := 11) (f := 48) (t := 101) rfl rfl h0 rfl ?_
      refine Ev_p 1 (c' := (65, [some (.ref a0), some (.int x1), some (.int x2), some (.int x3)], [.int x2, .ref (zrf a0 48), .int x2, .ref (zrf a0 48)])) rfl ?_
      refine Ez_bl (M := zM223) rfl (zty (ci := 11) (f := 48) (t := 101) h0 rfl) hF (fun v1 hF => ?_)
      refine Ev_p 0 (c' := (66, [some (.ref a0), some (.int x1), some (.int x2), some (.int x3)], [.int v1, .int x2, .ref (zrf a0 48)])) rfl ?_
      refine Ez_if (M := zM223) (b := ¬ v1 = 0) rfl rfl hF (fun _ hF => ?_) (fun _ hF => ?_)
      · refine Ev_p 2 (c' := (93, [some (.ref a0), some (.int x1), some (.int x2), some (.int x3)], [.int 1, .int x2, .ref (zrf a0 48)])) rfl ?_
        exact zf223_93_ok hK h0 hk2 (fun _ _ _ _ hF => ih hF) hF
      · refine Ev_p 1 (c' := (70, [some (.ref a0), some (.int x1), some (.int x2), some (.int x3)], [.ref a0, .int x2, .ref (zrf a0 48)])) rfl ?_
        refine Ez_gr (M := zM223) (ci := 11) (f := 33) (t := 100) rfl rfl h0 rfl ?_
        refine Ev_p 1 (c' := (74, [some (.ref a0), some (.int x1), some (.int x2), some (.int x3)], [.int x3, .ref (zrf a0 33), .int x2, .ref (zrf a0 48)])) rfl ?_
        refine Ez_al (M := zM223) rfl (zty (ci := 11) (f := 33) (t := 100) h0 rfl) hF (fun v2 hF => ?_)
        refine Ev_p 1 (c' := (76, [some (.ref a0), some (.int x1), some (.int x2), some (.int x3)], [.int x2, .int v2, .int x2, .ref (zrf a0 48)])) rfl ?_
        refine Ez_if (M := zM223) (b := ¬ v2 = x2) rfl rfl hF (fun _ hF => ?_) (fun _ hF => ?_)
        · refine Ev_p 1 (c' := (93, [some (.ref a0), some (.int x1), some (.int x2), some (.int x3)], [.int 0, .int x2, .ref (zrf a0 48)])) rfl ?_
          exact zf223_93_ok hK h0 hk2 (fun _ _ _ _ hF => ih hF) hF
        · refine Ev_p 1 (c' := (80, [some (.ref a0), some (.int x1), some (.int x2), some (.int x3)], [.ref a0, .int x2, .ref (zrf a0 48)])) rfl ?_
          refine Ez_gr (M := zM223) (ci := 11) (f := 34) (t := 100) rfl rfl h0 rfl ?_
          refine Ev_p 1 (c' := (84, [some (.ref a0), some (.int x1), some (.int x2), some (.int x3)], [.int x3, .ref (zrf a0 34), .int x2, .ref (zrf a0 48)])) rfl ?_
          refine Ez_al (M := zM223) rfl (zty (ci := 11) (f := 34) (t := 100) h0 rfl) hF (fun v3 hF => ?_)
          refine Ev_p 0 (c' := (85, [some (.ref a0), some (.int x1), some (.int x2), some (.int x3)], [.int v3, .int x2, .ref (zrf a0 48)])) rfl ?_
          refine Ez_if (M := zM223) (b := 0 ≤ v3) rfl rfl hF (fun _ hF => ?_) (fun _ hF => ?_)
          · refine Ev_p 1 (c' := (93, [some (.ref a0), some (.int x1), some (.int x2), some (.int x3)], [.int 0, .int x2, .ref (zrf a0 48)])) rfl ?_
            exact zf223_93_ok hK h0 hk2 (fun _ _ _ _ hF => ih hF) hF
          · refine Ev_p 2 (c' := (93, [some (.ref a0), some (.int x1), some (.int x2), some (.int x3)], [.int 1, .int x2, .ref (zrf a0 48)])) rfl ?_
            exact zf223_93_ok hK h0 hk2 (fun _ _ _ _ hF => ih hF) hF
noncomputable def zf223_40 (a0 : Nat) (k2 : Int32 → Int32 → zS → Option (zS)) (x1 : Int32) (x2 : Int32) (t0 : Int32) (t1 : Int32) (s : zS) : Option (zS) :=
  zbs s (zrf a0 48) t1 t0 fun s1 =>
  zas s1 (zrf a0 49) x2 (-1) fun s2 =>
  zf223_50 a0 k2 zfz x1 x2 0 s2
theorem zf223_40_ok {K : cx_K} (hK : Kok K) {lg : Nat → Int64} {s' : zS} {a0 : Nat} (h0 : zsh a0 = 11) {k2 : Int32 → Int32 → zS → Option (zS)} (hk2 : ∀ x1 x2 s, k2 x1 x2 s = some s' → Ev K zM223 (2, [some (.ref a0), some (.int x1), some (.int x2), none], [], zmk lg s) 0 (.inl none) (zmk lg s') 0) {x1 : Int32} {x2 : Int32} {t0 : Int32} {t1 : Int32}  {s : zS} (hF : zf223_40 a0 k2 x1 x2 t0 t1 s = some s') : Ev K zM223 (40, [some (.ref a0), some (.int x1), some (.int x2), none], [.int t0, .int t1, .ref (zrf a0 48)], zmk lg s) 0 (.inl none) (zmk lg s') 0 := by
  unfold zf223_40 at hF
  refine Ev_p 0 (c' := (40, [some (.ref a0), some (.int x1), some (.int x2), none], [.int t0, .int t1, .ref (zrf a0 48)])) rfl ?_
  refine Ez_bs (M := zM223) rfl (zty (ci := 11) (f := 48) (t := 101) h0 rfl) hF (fun s1 hF => ?_)
  refine Ev_p 1 (c' := (42, [some (.ref a0), some (.int x1), some (.int x2), none], [.ref a0])) rfl ?_
  refine Ez_gr (M := zM223) (ci := 11) (f := 49) (t := 100) rfl rfl h0 rfl ?_
  refine Ev_p 2 (c' := (47, [some (.ref a0), some (.int x1), some (.int x2), none], [.int (-1), .int x2, .ref (zrf a0 49)])) rfl ?_
  refine Ez_as (M := zM223) rfl (zty (ci := 11) (f := 49) (t := 100) h0 rfl) hF (fun s2 hF => ?_)
  refine Ev_p 2 (c' := (50, [some (.ref a0), some (.int x1), some (.int x2), some (.int 0)], [])) rfl ?_
  exact zf223_50_ok hK h0 hk2 hF
noncomputable def zf223_2 (a0 : Nat)  : Nat → Int32 → Int32 → zS → Option (zS)
  | 0, _, _, _ => none
  | n + 1, x1, x2, s =>
    zal s (zrf a0 22) 0 fun v1 =>
    if v1 ≤ x2 then
      some s
    else
      if x2 ≤ 0 then
        zf223_40 a0 (zf223_2 a0 n) x1 x2 0 x2 s
      else
        zal s (zrf a0 24) x2 fun v2 =>
        zal s (zrf a0 48) v2 fun v3 =>
        if v3 = 0 then
          zf223_40 a0 (zf223_2 a0 n) x1 x2 0 x2 s
        else
          zf223_40 a0 (zf223_2 a0 n) x1 x2 1 x2 s
theorem zf223_2_ok {K : cx_K} (hK : Kok K) {lg : Nat → Int64} {s' : zS} {a0 : Nat} (h0 : zsh a0 = 11)   {n : Nat} : ∀ {x1 : Int32} {x2 : Int32} {s : zS}, zf223_2 a0 n x1 x2 s = some s' → Ev K zM223 (2, [some (.ref a0), some (.int x1), some (.int x2), none], [], zmk lg s) 0 (.inl none) (zmk lg s') 0 := by
  induction n with
  | zero => intro x1 x2 s hF; rw [zf223_2] at hF; cases hF
  | succ n ih =>
    intro x1 x2 s hF
    rw [zf223_2] at hF
    refine Ev_p 2 (c' := (4, [some (.ref a0), some (.int x1), some (.int x2), none], [.ref a0, .int x2])) rfl ?_
    refine Ez_gr (M := zM223) (ci := 11) (f := 22) (t := 100) rfl rfl h0 rfl ?_
    refine Ev_p 1 (c' := (8, [some (.ref a0), some (.int x1), some (.int x2), none], [.int 0, .ref (zrf a0 22), .int x2])) rfl ?_
    refine Ez_al (M := zM223) rfl (zty (ci := 11) (f := 22) (t := 100) h0 rfl) hF (fun v1 hF => ?_)
    refine Ev_p 0 (c' := (9, [some (.ref a0), some (.int x1), some (.int x2), none], [.int v1, .int x2])) rfl ?_
    refine Ez_if (M := zM223) (b := v1 ≤ x2) rfl rfl hF (fun _ hF => ?_) (fun _ hF => ?_)
    · refine Ev_p 0 (c' := (137, [some (.ref a0), some (.int x1), some (.int x2), none], [])) rfl ?_
      exact Ez_rv (M := zM223) rfl rfl hF
    · refine Ev_p 1 (c' := (13, [some (.ref a0), some (.int x1), some (.int x2), none], [.ref a0])) rfl ?_
      refine Ez_gr (M := zM223) (ci := 11) (f := 48) (t := 101) rfl rfl h0 rfl ?_
      refine Ev_p 2 (c' := (18, [some (.ref a0), some (.int x1), some (.int x2), none], [.int x2, .int x2, .ref (zrf a0 48)])) rfl ?_
      refine Ez_if (M := zM223) (b := x2 ≤ 0) rfl rfl hF (fun _ hF => ?_) (fun _ hF => ?_)
      · refine Ev_p 1 (c' := (40, [some (.ref a0), some (.int x1), some (.int x2), none], [.int 0, .int x2, .ref (zrf a0 48)])) rfl ?_
        exact zf223_40_ok hK h0 (fun _ _ _ hF => ih hF) hF
      · refine Ev_p 1 (c' := (22, [some (.ref a0), some (.int x1), some (.int x2), none], [.ref a0, .int x2, .ref (zrf a0 48)])) rfl ?_
        refine Ez_gr (M := zM223) (ci := 11) (f := 48) (t := 101) rfl rfl h0 rfl ?_
        refine Ev_p 1 (c' := (26, [some (.ref a0), some (.int x1), some (.int x2), none], [.ref a0, .ref (zrf a0 48), .int x2, .ref (zrf a0 48)])) rfl ?_
        refine Ez_gr (M := zM223) (ci := 11) (f := 24) (t := 100) rfl rfl h0 rfl ?_
        refine Ev_p 1 (c' := (30, [some (.ref a0), some (.int x1), some (.int x2), none], [.int x2, .ref (zrf a0 24), .ref (zrf a0 48), .int x2, .ref (zrf a0 48)])) rfl ?_
        refine Ez_al (M := zM223) rfl (zty (ci := 11) (f := 24) (t := 100) h0 rfl) hF (fun v2 hF => ?_)
        refine Ev_p 0 (c' := (31, [some (.ref a0), some (.int x1), some (.int x2), none], [.int v2, .ref (zrf a0 48), .int x2, .ref (zrf a0 48)])) rfl ?_
        refine Ez_bl (M := zM223) rfl (zty (ci := 11) (f := 48) (t := 101) h0 rfl) hF (fun v3 hF => ?_)
        refine Ev_p 0 (c' := (32, [some (.ref a0), some (.int x1), some (.int x2), none], [.int v3, .int x2, .ref (zrf a0 48)])) rfl ?_
        refine Ez_if (M := zM223) (b := v3 = 0) rfl rfl hF (fun _ hF => ?_) (fun _ hF => ?_)
        · refine Ev_p 1 (c' := (40, [some (.ref a0), some (.int x1), some (.int x2), none], [.int 0, .int x2, .ref (zrf a0 48)])) rfl ?_
          exact zf223_40_ok hK h0 (fun _ _ _ hF => ih hF) hF
        · refine Ev_p 2 (c' := (40, [some (.ref a0), some (.int x1), some (.int x2), none], [.int 1, .int x2, .ref (zrf a0 48)])) rfl ?_
          exact zf223_40_ok hK h0 (fun _ _ _ hF => ih hF) hF
noncomputable def zf223 (a0 : Nat) (x1 : Int32) (s : zS) : Option (zS) :=
  zf223_2 a0 zfz x1 0 s
theorem zf223_ok {K : cx_K} (hK : Kok K) {lg : Nat → Int64} {s' : zS} {a0 : Nat} (h0 : zsh a0 = 11) {x1 : Int32} {s : zS} (hF : zf223 a0 x1 s = some s') : Ct K 223 [.ref a0, .int x1] (zmk lg s) (.inl none) (zmk lg s') 0 := by
  unfold zf223 at hF
  refine Ct_of hK nd_ok223 (mL := 4) (rt := none) rfl rfl (Nat.le_of_ble_eq_true rfl) zlen_le ?_
  refine Ev_p 2 (c' := (2, [some (.ref a0), some (.int x1), some (.int 0), none], [])) rfl ?_
  exact zf223_2_ok hK h0 hF
-- PaperParcelsModel.endOf(II)I
abbrev zM224 : ev_M := (am_in nd_i224, am_fl nd_f11, am_ct nd_k11, am_sl nd_ml nd_s224, fun _ => none, some .int)
noncomputable def zf224_69 (a0 : Nat) (k7 : Int32 → Int32 → Int32 → Int32 → zS → Option (Int32 × zS)) (x1 : Int32) (x2 : Int32) (x3 : Int32) (t0 : Int32) (s : zS) : Option (Int32 × zS) :=
  if t0 = 0 then
    k7 x1 x2 (x3 + 0) t0 s
  else
    k7 x1 x2 (x3 + 1) t0 s
theorem zf224_69_ok {K : cx_K} (hK : Kok K) {lg : Nat → Int64} {v : Int32} {s' : zS} {a0 : Nat} (h0 : zsh a0 = 11) {k7 : Int32 → Int32 → Int32 → Int32 → zS → Option (Int32 × zS)} (hk7 : ∀ x1 x2 x3 x4 s, k7 x1 x2 x3 x4 s = some (v, s') → Ev K zM224 (7, [some (.ref a0), some (.int x1), some (.int x2), some (.int x3), some (.int x4), none], [], zmk lg s) 0 (.inl (some (.int v))) (zmk lg s') 0) {x1 : Int32} {x2 : Int32} {x3 : Int32} {t0 : Int32}  {s : zS} (hF : zf224_69 a0 k7 x1 x2 x3 t0 s = some (v, s')) : Ev K zM224 (69, [some (.ref a0), some (.int x1), some (.int x2), some (.int x3), none, none], [.int t0], zmk lg s) 0 (.inl (some (.int v))) (zmk lg s') 0 := by
  unfold zf224_69 at hF
  refine Ev_p 3 (c' := (74, [some (.ref a0), some (.int x1), some (.int x2), some (.int x3), some (.int t0), none], [.int t0, .int x3])) rfl ?_
  refine Ez_if (M := zM224) (b := t0 = 0) rfl rfl hF (fun _ hF => ?_) (fun _ hF => ?_)
  · refine Ev_p 4 (c' := (7, [some (.ref a0), some (.int x1), some (.int x2), some (.int (x3 + 0)), some (.int t0), none], [])) rfl ?_
    exact hk7 _ _ _ _ _ hF
  · refine Ev_p 5 (c' := (7, [some (.ref a0), some (.int x1), some (.int x2), some (.int (x3 + 1)), some (.int t0), none], [])) rfl ?_
    exact hk7 _ _ _ _ _ hF
noncomputable def zf224_35 (a0 : Nat) (k7 : Int32 → Int32 → Int32 → Int32 → zS → Option (Int32 × zS)) : Nat → Int32 → Int32 → Int32 → Int32 → zS → Option (Int32 × zS)
  | 0, _, _, _, _, _ => none
  | n + 1, x1, x2, x3, x5, s =>
    if x5 ≤ x2 then
      if ¬ x5 = x2 then
        zf224_69 a0 k7 x1 x2 x3 0 s
      else
        zf224_69 a0 k7 x1 x2 x3 1 s
    else
      zal s (zrf a0 24) ((100 * x1) + x5) fun v1 =>
      zf224_35 a0 k7 n x1 x2 x3 v1 s
theorem zf224_35_ok {K : cx_K} (hK : Kok K) {lg : Nat → Int64} {v : Int32} {s' : zS} {a0 : Nat} (h0 : zsh a0 = 11) {k7 : Int32 → Int32 → Int32 → Int32 → zS → Option (Int32 × zS)} (hk7 : ∀ x1 x2 x3 x4 s, k7 x1 x2 x3 x4 s = some (v, s') → Ev K zM224 (7, [some (.ref a0), some (.int x1), some (.int x2), some (.int x3), some (.int x4), none], [], zmk lg s) 0 (.inl (some (.int v))) (zmk lg s') 0) {n : Nat} : ∀ {x1 : Int32} {x2 : Int32} {x3 : Int32} {x5 : Int32} {s : zS}, zf224_35 a0 k7 n x1 x2 x3 x5 s = some (v, s') → Ev K zM224 (35, [some (.ref a0), some (.int x1), some (.int x2), some (.int x3), none, some (.int x5)], [], zmk lg s) 0 (.inl (some (.int v))) (zmk lg s') 0 := by
  induction n with
  | zero => intro x1 x2 x3 x5 s hF; rw [zf224_35] at hF; cases hF
  | succ n ih =>
    intro x1 x2 x3 x5 s hF
    rw [zf224_35] at hF
    refine Ev_p 2 (c' := (38, [some (.ref a0), some (.int x1), some (.int x2), some (.int x3), none, some (.int x5)], [.int x2, .int x5])) rfl ?_
    refine Ez_if (M := zM224) (b := x5 ≤ x2) rfl rfl hF (fun _ hF => ?_) (fun _ hF => ?_)
    · refine Ev_p 2 (c' := (61, [some (.ref a0), some (.int x1), some (.int x2), some (.int x3), none, some (.int x5)], [.int x2, .int x5])) rfl ?_
      refine Ez_if (M := zM224) (b := ¬ x5 = x2) rfl rfl hF (fun _ hF => ?_) (fun _ hF => ?_)
      · refine Ev_p 1 (c' := (69, [some (.ref a0), some (.int x1), some (.int x2), some (.int x3), none, some (.int x5)], [.int 0])) rfl ?_
        refine Ev_w (L' := [some (.ref a0), some (.int x1), some (.int x2), some (.int x3), none, none]) (zle_c (zle_c (zle_c (zle_c (zle_c (zle_n zle_0)))))) ?_
        exact zf224_69_ok hK h0 hk7 hF
      · refine Ev_p 2 (c' := (69, [some (.ref a0), some (.int x1), some (.int x2), some (.int x3), none, some (.int x5)], [.int 1])) rfl ?_
        refine Ev_w (L' := [some (.ref a0), some (.int x1), some (.int x2), some (.int x3), none, none]) (zle_c (zle_c (zle_c (zle_c (zle_c (zle_n zle_0)))))) ?_
        exact zf224_69_ok hK h0 hk7 hF
    · refine Ev_p 1 (c' := (42, [some (.ref a0), some (.int x1), some (.int x2), some (.int x3), none, some (.int x5)], [.ref a0])) rfl ?_
      refine Ez_gr (M := zM224) (ci := 11) (f := 24) (t := 100) rfl rfl h0 rfl ?_
      refine Ev_p 5 (c' := (52, [some (.ref a0), some (.int x1), some (.int x2), some (.int x3), none, some (.int x5)], [.int ((100 * x1) + x5), .ref (zrf a0 24)])) rfl ?_
      refine Ez_al (M := zM224) rfl (zty (ci := 11) (f := 24) (t := 100) h0 rfl) hF (fun v1 hF => ?_)
      refine Ev_p 2 (c' := (35, [some (.ref a0), some (.int x1), some (.int x2), some (.int x3), none, some (.int v1)], [])) rfl ?_
      exact ih hF
noncomputable def zf224_7 (a0 : Nat)  : Nat → Int32 → Int32 → Int32 → Int32 → zS → Option (Int32 × zS)
  | 0, _, _, _, _, _ => none
  | n + 1, x1, x2, x3, x4, s =>
    zal s (zrf a0 22) x1 fun v1 =>
    if v1 ≤ x3 then
      some (x3, s)
    else
      if x4 = 0 then
        some (x3, s)
      else
        zal s (zrf a0 24) ((100 * x1) + x3) fun v2 =>
        zf224_35 a0 (zf224_7 a0 n) zfz x1 x2 x3 v2 s
theorem zf224_7_ok {K : cx_K} (hK : Kok K) {lg : Nat → Int64} {v : Int32} {s' : zS} {a0 : Nat} (h0 : zsh a0 = 11)   {n : Nat} : ∀ {x1 : Int32} {x2 : Int32} {x3 : Int32} {x4 : Int32} {s : zS}, zf224_7 a0 n x1 x2 x3 x4 s = some (v, s') → Ev K zM224 (7, [some (.ref a0), some (.int x1), some (.int x2), some (.int x3), some (.int x4), none], [], zmk lg s) 0 (.inl (some (.int v))) (zmk lg s') 0 := by
  induction n with
  | zero => intro x1 x2 x3 x4 s hF; rw [zf224_7] at hF; cases hF
  | succ n ih =>
    intro x1 x2 x3 x4 s hF
    rw [zf224_7] at hF
    refine Ev_p 2 (c' := (9, [some (.ref a0), some (.int x1), some (.int x2), some (.int x3), some (.int x4), none], [.ref a0, .int x3])) rfl ?_
    refine Ez_gr (M := zM224) (ci := 11) (f := 22) (t := 100) rfl rfl h0 rfl ?_
    refine Ev_p 1 (c' := (13, [some (.ref a0), some (.int x1), some (.int x2), some (.int x3), some (.int x4), none], [.int x1, .ref (zrf a0 22), .int x3])) rfl ?_
    refine Ez_al (M := zM224) rfl (zty (ci := 11) (f := 22) (t := 100) h0 rfl) hF (fun v1 hF => ?_)
    refine Ev_p 0 (c' := (14, [some (.ref a0), some (.int x1), some (.int x2), some (.int x3), some (.int x4), none], [.int v1, .int x3])) rfl ?_
    refine Ez_if (M := zM224) (b := v1 ≤ x3) rfl rfl hF (fun _ hF => ?_) (fun _ hF => ?_)
    · refine Ev_p 1 (c' := (88, [some (.ref a0), some (.int x1), some (.int x2), some (.int x3), some (.int x4), none], [.int x3])) rfl ?_
      exact Ez_ri (M := zM224) rfl rfl hF
    · refine Ev_p 1 (c' := (19, [some (.ref a0), some (.int x1), some (.int x2), some (.int x3), some (.int x4), none], [.int x4])) rfl ?_
      refine Ez_if (M := zM224) (b := x4 = 0) rfl rfl hF (fun _ hF => ?_) (fun _ hF => ?_)
      · refine Ev_p 1 (c' := (88, [some (.ref a0), some (.int x1), some (.int x2), some (.int x3), some (.int x4), none], [.int x3])) rfl ?_
        exact Ez_ri (M := zM224) rfl rfl hF
      · refine Ev_p 1 (c' := (23, [some (.ref a0), some (.int x1), some (.int x2), some (.int x3), some (.int x4), none], [.ref a0])) rfl ?_
        refine Ez_gr (M := zM224) (ci := 11) (f := 24) (t := 100) rfl rfl h0 rfl ?_
        refine Ev_p 5 (c' := (32, [some (.ref a0), some (.int x1), some (.int x2), some (.int x3), some (.int x4), none], [.int ((100 * x1) + x3), .ref (zrf a0 24)])) rfl ?_
        refine Ez_al (M := zM224) rfl (zty (ci := 11) (f := 24) (t := 100) h0 rfl) hF (fun v2 hF => ?_)
        refine Ev_p 1 (c' := (35, [some (.ref a0), some (.int x1), some (.int x2), some (.int x3), some (.int x4), some (.int v2)], [])) rfl ?_
        refine Ev_w (L' := [some (.ref a0), some (.int x1), some (.int x2), some (.int x3), none, some (.int v2)]) (zle_c (zle_c (zle_c (zle_c (zle_n (zle_c zle_0)))))) ?_
        exact zf224_35_ok hK h0 (fun _ _ _ _ _ hF => ih hF) hF
noncomputable def zf224 (a0 : Nat) (x1 : Int32) (x2 : Int32) (s : zS) : Option (Int32 × zS) :=
  zf224_7 a0 zfz x1 x2 (x2 + 1) 1 s
theorem zf224_ok {K : cx_K} (hK : Kok K) {lg : Nat → Int64} {v : Int32} {s' : zS} {a0 : Nat} (h0 : zsh a0 = 11) {x1 : Int32} {x2 : Int32} {s : zS} (hF : zf224 a0 x1 x2 s = some (v, s')) : Ct K 224 [.ref a0, .int x1, .int x2] (zmk lg s) (.inl (some (.int v))) (zmk lg s') 0 := by
  unfold zf224 at hF
  refine Ct_of hK nd_ok224 (mL := 6) (rt := some .int) rfl rfl (Nat.le_of_ble_eq_true rfl) zlen_le ?_
  refine Ev_p 6 (c' := (7, [some (.ref a0), some (.int x1), some (.int x2), some (.int (x2 + 1)), some (.int 1), none], [])) rfl ?_
  exact zf224_7_ok hK h0 hF
-- PaperParcelsModel.putIn(III)V
abbrev zM225 : ev_M := (am_in nd_i225, am_fl nd_f11, am_ct nd_k11, am_sl nd_ml nd_s225, fun _ => none, none)
noncomputable def zf225_115 (a0 : Nat) (k3 : Int32 → Int32 → Int32 → Int32 → zS → Option (zS)) (k74 : Int32 → Int32 → Int32 → Int32 → Int32 → Int32 → Int32 → Int32 → zS → Option (zS)) (x1 : Int32) (x2 : Int32) (x3 : Int32) (x4 : Int32) (x5 : Int32) (x6 : Int32) (x7 : Int32) (x8 : Int32) (t0 : Int32) (t1 : Int32) (t2 : Int32) (t3 : Int32) (s : zS) : Option (zS) :=
  zbv (zf198 a0 t3 t2 t1 t0 s) fun s2 =>
  k74 x1 x2 x3 x4 x5 x6 x7 (x8 + 1) s2
theorem zf225_115_ok {K : cx_K} (hK : Kok K) {lg : Nat → Int64} {s' : zS} {a0 : Nat} (h0 : zsh a0 = 11) {k3 : Int32 → Int32 → Int32 → Int32 → zS → Option (zS)} {k74 : Int32 → Int32 → Int32 → Int32 → Int32 → Int32 → Int32 → Int32 → zS → Option (zS)} (hk3 : ∀ x1 x2 x3 x4 s, k3 x1 x2 x3 x4 s = some s' → Ev K zM225 (3, [some (.ref a0), some (.int x1), some (.int x2), some (.int x3), some (.int x4), none, none, none, none], [], zmk lg s) 0 (.inl none) (zmk lg s') 0) (hk74 : ∀ x1 x2 x3 x4 x5 x6 x7 x8 s, k74 x1 x2 x3 x4 x5 x6 x7 x8 s = some s' → Ev K zM225 (74, [some (.ref a0), some (.int x1), some (.int x2), some (.int x3), some (.int x4), some (.int x5), some (.int x6), some (.int x7), some (.int x8)], [], zmk lg s) 0 (.inl none) (zmk lg s') 0) {x1 : Int32} {x2 : Int32} {x3 : Int32} {x4 : Int32} {x5 : Int32} {x6 : Int32} {x7 : Int32} {x8 : Int32} {t0 : Int32} {t1 : Int32} {t2 : Int32} {t3 : Int32}  {s : zS} (hF : zf225_115 a0 k3 k74 x1 x2 x3 x4 x5 x6 x7 x8 t0 t1 t2 t3 s = some s') : Ev K zM225 (115, [some (.ref a0), some (.int x1), some (.int x2), some (.int x3), some (.int x4), some (.int x5), some (.int x6), some (.int x7), some (.int x8)], [.int t0, .int t1, .int t2, .int t3, .ref a0], zmk lg s) 0 (.inl none) (zmk lg s') 0 := by
  unfold zf225_115 at hF
  refine Ev_p 0 (c' := (115, [some (.ref a0), some (.int x1), some (.int x2), some (.int x3), some (.int x4), some (.int x5), some (.int x6), some (.int x7), some (.int x8)], [.int t0, .int t1, .int t2, .int t3, .ref a0])) rfl ?_
  refine Ez_cv (M := zM225) (As := [.ref a0, .int t3, .int t2, .int t1, .int t0]) (st' := []) (am_site_v (y := 198) (k := 5) (ci := 11) rfl rfl (zrcv rfl h0 rfl)) (Nat.le_of_ble_eq_true rfl) (Nat.le_of_ble_eq_true rfl) rfl rfl (fun _ hF => zf198_ok hK h0 hF) hF (fun s2 hF => ?_)
  refine Ev_p 2 (c' := (74, [some (.ref a0), some (.int x1), some (.int x2), some (.int x3), some (.int x4), some (.int x5), some (.int x6), some (.int x7), some (.int (x8 + 1))], [])) rfl ?_
  exact hk74 _ _ _ _ _ _ _ _ _ hF
noncomputable def zf225_74 (a0 : Nat) (k3 : Int32 → Int32 → Int32 → Int32 → zS → Option (zS)) : Nat → Int32 → Int32 → Int32 → Int32 → Int32 → Int32 → Int32 → Int32 → zS → Option (zS)
  | 0, _, _, _, _, _, _, _, _, _ => none
  | n + 1, x1, x2, x3, x4, x5, x6, x7, x8, s =>
    if x6 ≤ x8 then
      k3 x1 x2 x3 (x4 + 1) s
    else
      if ¬ x8 = x5 then
        zal s (zrf a0 24) (100 + x8) fun v1 =>
        zf225_115 a0 k3 (zf225_74 a0 k3 n) x1 x2 x3 x4 x5 x6 x7 x8 (v1 + x7) x8 1 2 s
      else
        zal s (zrf a0 50) x1 fun v2 =>
        zf225_115 a0 k3 (zf225_74 a0 k3 n) x1 x2 x3 x4 x5 x6 x7 x8 v2 x8 1 2 s
theorem zf225_74_ok {K : cx_K} (hK : Kok K) {lg : Nat → Int64} {s' : zS} {a0 : Nat} (h0 : zsh a0 = 11) {k3 : Int32 → Int32 → Int32 → Int32 → zS → Option (zS)} (hk3 : ∀ x1 x2 x3 x4 s, k3 x1 x2 x3 x4 s = some s' → Ev K zM225 (3, [some (.ref a0), some (.int x1), some (.int x2), some (.int x3), some (.int x4), none, none, none, none], [], zmk lg s) 0 (.inl none) (zmk lg s') 0) {n : Nat} : ∀ {x1 : Int32} {x2 : Int32} {x3 : Int32} {x4 : Int32} {x5 : Int32} {x6 : Int32} {x7 : Int32} {x8 : Int32} {s : zS}, zf225_74 a0 k3 n x1 x2 x3 x4 x5 x6 x7 x8 s = some s' → Ev K zM225 (74, [some (.ref a0), some (.int x1), some (.int x2), some (.int x3), some (.int x4), some (.int x5), some (.int x6), some (.int x7), some (.int x8)], [], zmk lg s) 0 (.inl none) (zmk lg s') 0 := by
  induction n with
  | zero => intro x1 x2 x3 x4 x5 x6 x7 x8 s hF; rw [zf225_74] at hF; cases hF
  | succ n ih =>
    intro x1 x2 x3 x4 x5 x6 x7 x8 s hF
    rw [zf225_74] at hF
    refine Ev_p 2 (c' := (78, [some (.ref a0), some (.int x1), some (.int x2), some (.int x3), some (.int x4), some (.int x5), some (.int x6), some (.int x7), some (.int x8)], [.int x6, .int x8])) rfl ?_
    refine Ez_if (M := zM225) (b := x6 ≤ x8) rfl rfl hF (fun _ hF => ?_) (fun _ hF => ?_)
    · refine Ev_p 2 (c' := (3, [some (.ref a0), some (.int x1), some (.int x2), some (.int x3), some (.int (x4 + 1)), some (.int x5), some (.int x6), some (.int x7), some (.int x8)], [])) rfl ?_
      refine Ev_w (L' := [some (.ref a0), some (.int x1), some (.int x2), some (.int x3), some (.int (x4 + 1)), none, none, none, none]) (zle_c (zle_c (zle_c (zle_c (zle_c (zle_n (zle_n (zle_n (zle_n zle_0))))))))) ?_
      exact hk3 _ _ _ _ _ hF
    · refine Ev_p 6 (c' := (90, [some (.ref a0), some (.int x1), some (.int x2), some (.int x3), some (.int x4), some (.int x5), some (.int x6), some (.int x7), some (.int x8)], [.int x5, .int x8, .int x8, .int 1, .int 2, .ref a0])) rfl ?_
      refine Ez_if (M := zM225) (b := ¬ x8 = x5) rfl rfl hF (fun _ hF => ?_) (fun _ hF => ?_)
      · refine Ev_p 1 (c' := (103, [some (.ref a0), some (.int x1), some (.int x2), some (.int x3), some (.int x4), some (.int x5), some (.int x6), some (.int x7), some (.int x8)], [.ref a0, .int x8, .int 1, .int 2, .ref a0])) rfl ?_
        refine Ez_gr (M := zM225) (ci := 11) (f := 24) (t := 100) rfl rfl h0 rfl ?_
        refine Ev_p 3 (c' := (111, [some (.ref a0), some (.int x1), some (.int x2), some (.int x3), some (.int x4), some (.int x5), some (.int x6), some (.int x7), some (.int x8)], [.int (100 + x8), .ref (zrf a0 24), .int x8, .int 1, .int 2, .ref a0])) rfl ?_
        refine Ez_al (M := zM225) rfl (zty (ci := 11) (f := 24) (t := 100) h0 rfl) hF (fun v1 hF => ?_)
        refine Ev_p 2 (c' := (115, [some (.ref a0), some (.int x1), some (.int x2), some (.int x3), some (.int x4), some (.int x5), some (.int x6), some (.int x7), some (.int x8)], [.int (v1 + x7), .int x8, .int 1, .int 2, .ref a0])) rfl ?_
        exact zf225_115_ok hK h0 hk3 (fun _ _ _ _ _ _ _ _ _ hF => ih hF) hF
      · refine Ev_p 1 (c' := (94, [some (.ref a0), some (.int x1), some (.int x2), some (.int x3), some (.int x4), some (.int x5), some (.int x6), some (.int x7), some (.int x8)], [.ref a0, .int x8, .int 1, .int 2, .ref a0])) rfl ?_
        refine Ez_gr (M := zM225) (ci := 11) (f := 50) (t := 100) rfl rfl h0 rfl ?_
        refine Ev_p 1 (c' := (98, [some (.ref a0), some (.int x1), some (.int x2), some (.int x3), some (.int x4), some (.int x5), some (.int x6), some (.int x7), some (.int x8)], [.int x1, .ref (zrf a0 50), .int x8, .int 1, .int 2, .ref a0])) rfl ?_
        refine Ez_al (M := zM225) rfl (zty (ci := 11) (f := 50) (t := 100) h0 rfl) hF (fun v2 hF => ?_)
        refine Ev_p 1 (c' := (115, [some (.ref a0), some (.int x1), some (.int x2), some (.int x3), some (.int x4), some (.int x5), some (.int x6), some (.int x7), some (.int x8)], [.int v2, .int x8, .int 1, .int 2, .ref a0])) rfl ?_
        exact zf225_115_ok hK h0 hk3 (fun _ _ _ _ _ _ _ _ _ hF => ih hF) hF
noncomputable def zf225_3 (a0 : Nat)  : Nat → Int32 → Int32 → Int32 → Int32 → zS → Option (zS)
  | 0, _, _, _, _, _ => none
  | n + 1, x1, x2, x3, x4, s =>
    if x3 ≤ x4 then
      some s
    else
      zal s (zrf a0 33) x4 fun v1 =>
      if 0 ≤ v1 then
        zf225_3 a0 n x1 x2 x3 (x4 + 1) s
      else
        zal s (zrf a0 35) x4 fun v2 =>
        if ¬ v2 = x1 then
          zf225_3 a0 n x1 x2 x3 (x4 + 1) s
        else
          zal s (zrf a0 36) x4 fun v3 =>
          if ¬ v3 = x2 then
            zf225_3 a0 n x1 x2 x3 (x4 + 1) s
          else
            zal s (zrf a0 34) x4 fun v4 =>
            zbi (zf224 a0 1 v4 s) fun v5 s6 =>
            zal s6 (zrf a0 22) 2 fun v7 =>
            zf225_74 a0 (zf225_3 a0 n) zfz x1 x2 x3 x4 v4 v5 (v7 - v4) v4 s6
theorem zf225_3_ok {K : cx_K} (hK : Kok K) {lg : Nat → Int64} {s' : zS} {a0 : Nat} (h0 : zsh a0 = 11)   {n : Nat} : ∀ {x1 : Int32} {x2 : Int32} {x3 : Int32} {x4 : Int32} {s : zS}, zf225_3 a0 n x1 x2 x3 x4 s = some s' → Ev K zM225 (3, [some (.ref a0), some (.int x1), some (.int x2), some (.int x3), some (.int x4), none, none, none, none], [], zmk lg s) 0 (.inl none) (zmk lg s') 0 := by
  induction n with
  | zero => intro x1 x2 x3 x4 s hF; rw [zf225_3] at hF; cases hF
  | succ n ih =>
    intro x1 x2 x3 x4 s hF
    rw [zf225_3] at hF
    refine Ev_p 2 (c' := (6, [some (.ref a0), some (.int x1), some (.int x2), some (.int x3), some (.int x4), none, none, none, none], [.int x3, .int x4])) rfl ?_
    refine Ez_if (M := zM225) (b := x3 ≤ x4) rfl rfl hF (fun _ hF => ?_) (fun _ hF => ?_)
    · refine Ev_p 0 (c' := (130, [some (.ref a0), some (.int x1), some (.int x2), some (.int x3), some (.int x4), none, none, none, none], [])) rfl ?_
      exact Ez_rv (M := zM225) rfl rfl hF
    · refine Ev_p 1 (c' := (10, [some (.ref a0), some (.int x1), some (.int x2), some (.int x3), some (.int x4), none, none, none, none], [.ref a0])) rfl ?_
      refine Ez_gr (M := zM225) (ci := 11) (f := 33) (t := 100) rfl rfl h0 rfl ?_
      refine Ev_p 1 (c' := (15, [some (.ref a0), some (.int x1), some (.int x2), some (.int x3), some (.int x4), none, none, none, none], [.int x4, .ref (zrf a0 33)])) rfl ?_
      refine Ez_al (M := zM225) rfl (zty (ci := 11) (f := 33) (t := 100) h0 rfl) hF (fun v1 hF => ?_)
      refine Ev_p 0 (c' := (16, [some (.ref a0), some (.int x1), some (.int x2), some (.int x3), some (.int x4), none, none, none, none], [.int v1])) rfl ?_
      refine Ez_if (M := zM225) (b := 0 ≤ v1) rfl rfl hF (fun _ hF => ?_) (fun _ hF => ?_)
      · refine Ev_p 2 (c' := (3, [some (.ref a0), some (.int x1), some (.int x2), some (.int x3), some (.int (x4 + 1)), none, none, none, none], [])) rfl ?_
        exact ih hF
      · refine Ev_p 1 (c' := (20, [some (.ref a0), some (.int x1), some (.int x2), some (.int x3), some (.int x4), none, none, none, none], [.ref a0])) rfl ?_
        refine Ez_gr (M := zM225) (ci := 11) (f := 35) (t := 100) rfl rfl h0 rfl ?_
        refine Ev_p 1 (c' := (25, [some (.ref a0), some (.int x1), some (.int x2), some (.int x3), some (.int x4), none, none, none, none], [.int x4, .ref (zrf a0 35)])) rfl ?_
        refine Ez_al (M := zM225) rfl (zty (ci := 11) (f := 35) (t := 100) h0 rfl) hF (fun v2 hF => ?_)
        refine Ev_p 1 (c' := (27, [some (.ref a0), some (.int x1), some (.int x2), some (.int x3), some (.int x4), none, none, none, none], [.int x1, .int v2])) rfl ?_
        refine Ez_if (M := zM225) (b := ¬ v2 = x1) rfl rfl hF (fun _ hF => ?_) (fun _ hF => ?_)
        · refine Ev_p 2 (c' := (3, [some (.ref a0), some (.int x1), some (.int x2), some (.int x3), some (.int (x4 + 1)), none, none, none, none], [])) rfl ?_
          exact ih hF
        · refine Ev_p 1 (c' := (31, [some (.ref a0), some (.int x1), some (.int x2), some (.int x3), some (.int x4), none, none, none, none], [.ref a0])) rfl ?_
          refine Ez_gr (M := zM225) (ci := 11) (f := 36) (t := 100) rfl rfl h0 rfl ?_
          refine Ev_p 1 (c' := (36, [some (.ref a0), some (.int x1), some (.int x2), some (.int x3), some (.int x4), none, none, none, none], [.int x4, .ref (zrf a0 36)])) rfl ?_
          refine Ez_al (M := zM225) rfl (zty (ci := 11) (f := 36) (t := 100) h0 rfl) hF (fun v3 hF => ?_)
          refine Ev_p 1 (c' := (38, [some (.ref a0), some (.int x1), some (.int x2), some (.int x3), some (.int x4), none, none, none, none], [.int x2, .int v3])) rfl ?_
          refine Ez_if (M := zM225) (b := ¬ v3 = x2) rfl rfl hF (fun _ hF => ?_) (fun _ hF => ?_)
          · refine Ev_p 2 (c' := (3, [some (.ref a0), some (.int x1), some (.int x2), some (.int x3), some (.int (x4 + 1)), none, none, none, none], [])) rfl ?_
            exact ih hF
          · refine Ev_p 1 (c' := (42, [some (.ref a0), some (.int x1), some (.int x2), some (.int x3), some (.int x4), none, none, none, none], [.ref a0])) rfl ?_
            refine Ez_gr (M := zM225) (ci := 11) (f := 34) (t := 100) rfl rfl h0 rfl ?_
            refine Ev_p 1 (c' := (47, [some (.ref a0), some (.int x1), some (.int x2), some (.int x3), some (.int x4), none, none, none, none], [.int x4, .ref (zrf a0 34)])) rfl ?_
            refine Ez_al (M := zM225) rfl (zty (ci := 11) (f := 34) (t := 100) h0 rfl) hF (fun v4 hF => ?_)
            refine Ev_p 4 (c' := (54, [some (.ref a0), some (.int x1), some (.int x2), some (.int x3), some (.int x4), some (.int v4), none, none, none], [.int v4, .int 1, .ref a0])) rfl ?_
            refine Ez_ci (M := zM225) (As := [.ref a0, .int 1, .int v4]) (st' := []) (am_site_v (y := 224) (k := 3) (ci := 11) rfl rfl (zrcv rfl h0 rfl)) (Nat.le_of_ble_eq_true rfl) (Nat.le_of_ble_eq_true rfl) rfl rfl (fun _ _ hF => zf224_ok hK h0 hF) hF (fun v5 s6 hF => ?_)
            refine Ev_p 2 (c' := (60, [some (.ref a0), some (.int x1), some (.int x2), some (.int x3), some (.int x4), some (.int v4), some (.int v5), none, none], [.ref a0])) rfl ?_
            refine Ez_gr (M := zM225) (ci := 11) (f := 22) (t := 100) rfl rfl h0 rfl ?_
            refine Ev_p 1 (c' := (64, [some (.ref a0), some (.int x1), some (.int x2), some (.int x3), some (.int x4), some (.int v4), some (.int v5), none, none], [.int 2, .ref (zrf a0 22)])) rfl ?_
            refine Ez_al (M := zM225) rfl (zty (ci := 11) (f := 22) (t := 100) h0 rfl) hF (fun v7 hF => ?_)
            refine Ev_p 5 (c' := (74, [some (.ref a0), some (.int x1), some (.int x2), some (.int x3), some (.int x4), some (.int v4), some (.int v5), some (.int (v7 - v4)), some (.int v4)], [])) rfl ?_
            exact zf225_74_ok hK h0 (fun _ _ _ _ _ hF => ih hF) hF
noncomputable def zf225 (a0 : Nat) (x1 : Int32) (x2 : Int32) (x3 : Int32) (s : zS) : Option (zS) :=
  zf225_3 a0 zfz x1 x2 x3 0 s
theorem zf225_ok {K : cx_K} (hK : Kok K) {lg : Nat → Int64} {s' : zS} {a0 : Nat} (h0 : zsh a0 = 11) {x1 : Int32} {x2 : Int32} {x3 : Int32} {s : zS} (hF : zf225 a0 x1 x2 x3 s = some s') : Ct K 225 [.ref a0, .int x1, .int x2, .int x3] (zmk lg s) (.inl none) (zmk lg s') 0 := by
  unfold zf225 at hF
  refine Ct_of hK nd_ok225 (mL := 9) (rt := none) rfl rfl (Nat.le_of_ble_eq_true rfl) zlen_le ?_
  refine Ev_p 2 (c' := (3, [some (.ref a0), some (.int x1), some (.int x2), some (.int x3), some (.int 0), none, none, none, none], [])) rfl ?_
  exact zf225_3_ok hK h0 hF
