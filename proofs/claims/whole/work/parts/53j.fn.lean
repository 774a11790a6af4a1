/-! The methods as functions, and that the machine goes so (printed by wip/gen/fgen.py). -/
set_option maxRecDepth 100000
set_option linter.unusedVariables false
-- PaperParcels$Script.addChange(II)V
abbrev zM104 : ev_M := (am_in nd_i104, am_fl nd_f8, am_ct nd_k8, am_sl nd_ml nd_s104, fun _ => none, none)
noncomputable def zf104 (a0 : Nat) (x1 : Int32) (x2 : Int32) (s : zS) : Option (zS) :=
  zbi (zf100 a0 x1 x2 s) fun v1 s2 =>
  if v1 = 0 then
    some s2
  else
    zbv (zf105 a0 x1 x2 (-1) (-1) s2) fun s4 =>
    some s4
theorem zf104_ok {K : cx_K} (hK : Kok K) {lg : Nat → Int64} {s' : zS} {a0 : Nat} (h0 : zsh a0 = 8) {x1 : Int32} {x2 : Int32} {s : zS} (hF : zf104 a0 x1 x2 s = some s') : Ct K 104 [.ref a0, .int x1, .int x2] (zmk lg s) (.inl none) (zmk lg s') 0 := by
  unfold zf104 at hF
  refine Ct_of hK nd_ok104 (mL := 3) (rt := none) rfl rfl (Nat.le_of_ble_eq_true rfl) zlen_le ?_
  refine Ev_p 3 (c' := (3, [some (.ref a0), some (.int x1), some (.int x2)], [.int x2, .int x1, .ref a0])) rfl ?_
  refine Ez_ci (M := zM104) (As := [.ref a0, .int x1, .int x2]) (st' := []) (am_site_v (y := 100) (k := 3) (ci := 8) rfl rfl (zrcv rfl h0 rfl)) (Nat.le_of_ble_eq_true rfl) (Nat.le_of_ble_eq_true rfl) rfl rfl (fun _ _ hF => zf100_ok hK h0 hF) hF (fun v1 s2 hF => ?_)
  refine Ev_p 0 (c' := (6, [some (.ref a0), some (.int x1), some (.int x2)], [.int v1])) rfl ?_
  refine Ez_if (M := zM104) (b := v1 = 0) rfl rfl hF (fun _ hF => ?_) (fun _ hF => ?_)
  · refine Ev_p 0 (c' := (17, [some (.ref a0), some (.int x1), some (.int x2)], [])) rfl ?_
    exact Ez_rv (M := zM104) rfl rfl hF
  · refine Ev_p 5 (c' := (14, [some (.ref a0), some (.int x1), some (.int x2)], [.int (-1), .int (-1), .int x2, .int x1, .ref a0])) rfl ?_
    refine Ez_cv (M := zM104) (As := [.ref a0, .int x1, .int x2, .int (-1), .int (-1)]) (st' := []) (am_site_v (y := 105) (k := 5) (ci := 8) rfl rfl (zrcv rfl h0 rfl)) (Nat.le_of_ble_eq_true rfl) (Nat.le_of_ble_eq_true rfl) rfl rfl (fun _ hF => zf105_ok hK h0 hF) hF (fun s4 hF => ?_)
    refine Ev_p 0 (c' := (17, [some (.ref a0), some (.int x1), some (.int x2)], [])) rfl ?_
    exact Ez_rv (M := zM104) rfl rfl hF
-- PaperParcels$Script.isLeastTogether(II)Z
abbrev zM106 : ev_M := (am_in nd_i106, am_fl nd_f8, am_ct nd_k8, am_sl nd_ml nd_s106, fun _ => none, some .boolean)
noncomputable def zf106 (a0 : Nat) (x1 : Int32) (x2 : Int32) (s : zS) : Option (Int32 × zS) :=
  if x1 = 40 then
    zrb 0 s
  else
    if x2 = 40 then
      zrb 0 s
    else
      zbi (zf99 a0 x1 x2 s) fun v1 s2 =>
      if v1 = 0 then
        zrb 0 s2
      else
        zar (zrf a0 10) x1 fun q3 =>
        zal s2 q3 x2 fun v4 =>
        zbi (zf102 a0 x1 x2 s2) fun v5 s6 =>
        if ¬ v4 = v5 then
          zrb 0 s6
        else
          zrb 1 s6
theorem zf106_ok {K : cx_K} (hK : Kok K) {lg : Nat → Int64} {v : Int32} {s' : zS} {a0 : Nat} (h0 : zsh a0 = 8) {x1 : Int32} {x2 : Int32} {s : zS} (hF : zf106 a0 x1 x2 s = some (v, s')) : Ct K 106 [.ref a0, .int x1, .int x2] (zmk lg s) (.inl (some (.int v))) (zmk lg s') 0 := by
  unfold zf106 at hF
  refine Ct_of hK nd_ok106 (mL := 3) (rt := some .boolean) rfl rfl (Nat.le_of_ble_eq_true rfl) zlen_le ?_
  refine Ev_p 2 (c' := (3, [some (.ref a0), some (.int x1), some (.int x2)], [.int 40, .int x1])) rfl ?_
  refine Ez_if (M := zM106) (b := x1 = 40) rfl rfl hF (fun _ hF => ?_) (fun _ hF => ?_)
  · refine Ev_p 1 (c' := (43, [some (.ref a0), some (.int x1), some (.int x2)], [.int 0])) rfl ?_
    exact Ez_rb (M := zM106) rfl rfl hF
  · refine Ev_p 2 (c' := (9, [some (.ref a0), some (.int x1), some (.int x2)], [.int 40, .int x2])) rfl ?_
    refine Ez_if (M := zM106) (b := x2 = 40) rfl rfl hF (fun _ hF => ?_) (fun _ hF => ?_)
    · refine Ev_p 1 (c' := (43, [some (.ref a0), some (.int x1), some (.int x2)], [.int 0])) rfl ?_
      exact Ez_rb (M := zM106) rfl rfl hF
    · refine Ev_p 3 (c' := (15, [some (.ref a0), some (.int x1), some (.int x2)], [.int x2, .int x1, .ref a0])) rfl ?_
      refine Ez_ci (M := zM106) (As := [.ref a0, .int x1, .int x2]) (st' := []) (am_site_v (y := 99) (k := 3) (ci := 8) rfl rfl (zrcv rfl h0 rfl)) (Nat.le_of_ble_eq_true rfl) (Nat.le_of_ble_eq_true rfl) rfl rfl (fun _ _ hF => zf99_ok hK h0 hF) hF (fun v1 s2 hF => ?_)
      refine Ev_p 0 (c' := (18, [some (.ref a0), some (.int x1), some (.int x2)], [.int v1])) rfl ?_
      refine Ez_if (M := zM106) (b := v1 = 0) rfl rfl hF (fun _ hF => ?_) (fun _ hF => ?_)
      · refine Ev_p 1 (c' := (43, [some (.ref a0), some (.int x1), some (.int x2)], [.int 0])) rfl ?_
        exact Ez_rb (M := zM106) rfl rfl hF
      · refine Ev_p 1 (c' := (22, [some (.ref a0), some (.int x1), some (.int x2)], [.ref a0])) rfl ?_
        refine Ez_gr (M := zM106) (ci := 8) (f := 10) (t := 104) rfl rfl h0 rfl ?_
        refine Ev_p 1 (c' := (26, [some (.ref a0), some (.int x1), some (.int x2)], [.int x1, .ref (zrf a0 10)])) rfl ?_
        refine Ez_ar4 (M := zM106) rfl (zty (ci := 8) (f := 10) (t := 104) h0 rfl) hF (fun q3 hq3 hF => ?_)
        refine Ev_p 1 (c' := (28, [some (.ref a0), some (.int x1), some (.int x2)], [.int x2, .ref q3])) rfl ?_
        refine Ez_al (M := zM106) rfl hq3 hF (fun v4 hF => ?_)
        refine Ev_p 3 (c' := (32, [some (.ref a0), some (.int x1), some (.int x2)], [.int x2, .int x1, .ref a0, .int v4])) rfl ?_
        refine Ez_ci (M := zM106) (As := [.ref a0, .int x1, .int x2]) (st' := [.int v4]) (am_site_v (y := 102) (k := 3) (ci := 8) rfl rfl (zrcv rfl h0 rfl)) (Nat.le_of_ble_eq_true rfl) (Nat.le_of_ble_eq_true rfl) rfl rfl (fun _ _ hF => zf102_ok hK h0 hF) hF (fun v5 s6 hF => ?_)
        refine Ev_p 0 (c' := (35, [some (.ref a0), some (.int x1), some (.int x2)], [.int v5, .int v4])) rfl ?_
        refine Ez_if (M := zM106) (b := ¬ v4 = v5) rfl rfl hF (fun _ hF => ?_) (fun _ hF => ?_)
        · refine Ev_p 1 (c' := (43, [some (.ref a0), some (.int x1), some (.int x2)], [.int 0])) rfl ?_
          exact Ez_rb (M := zM106) rfl rfl hF
        · refine Ev_p 2 (c' := (43, [some (.ref a0), some (.int x1), some (.int x2)], [.int 1])) rfl ?_
          exact Ez_rb (M := zM106) rfl rfl hF
-- PaperParcels$Script.addSteps()V
abbrev zM103 : ev_M := (am_in nd_i103, am_fl nd_f8, am_ct nd_k8, am_sl nd_ml nd_s103, fun _ => none, none)
noncomputable def zf103_205 (a0 : Nat) (k34 : Int32 → Int32 → Int32 → Int32 → Int32 → zS → Option (zS)) (x1 : Int32) (x2 : Int32) (x3 : Int32) (x4 : Int32) (x5 : Int32) (s : zS) : Option (zS) :=
  zbv (zf105 a0 (-1) x4 x1 x3 s) fun s2 =>
  zal s2 (zrf (zrf a0 7) 2) x4 fun v3 =>
  k34 x1 x2 x3 v3 (x5 + 1) s2
theorem zf103_205_ok {K : cx_K} (hK : Kok K) {lg : Nat → Int64} {s' : zS} {a0 : Nat} (h0 : zsh a0 = 8) {k34 : Int32 → Int32 → Int32 → Int32 → Int32 → zS → Option (zS)} (hk34 : ∀ x1 x2 x3 x4 x5 s, k34 x1 x2 x3 x4 x5 s = some s' → Ev K zM103 (34, [some (.ref a0), some (.int x1), some (.int x2), some (.int x3), some (.int x4), some (.int x5)], [], zmk lg s) 0 (.inl none) (zmk lg s') 0) {x1 : Int32} {x2 : Int32} {x3 : Int32} {x4 : Int32} {x5 : Int32}  {s : zS} (hF : zf103_205 a0 k34 x1 x2 x3 x4 x5 s = some s') : Ev K zM103 (205, [some (.ref a0), some (.int x1), some (.int x2), some (.int x3), some (.int x4), some (.int x5)], [], zmk lg s) 0 (.inl none) (zmk lg s') 0 := by
  unfold zf103_205 at hF
  refine Ev_p 5 (c' := (211, [some (.ref a0), some (.int x1), some (.int x2), some (.int x3), some (.int x4), some (.int x5)], [.int x3, .int x1, .int x4, .int (-1), .ref a0])) rfl ?_
  refine Ez_cv (M := zM103) (As := [.ref a0, .int (-1), .int x4, .int x1, .int x3]) (st' := []) (am_site_v (y := 105) (k := 5) (ci := 8) rfl rfl (zrcv rfl h0 rfl)) (Nat.le_of_ble_eq_true rfl) (Nat.le_of_ble_eq_true rfl) rfl rfl (fun _ hF => zf105_ok hK h0 hF) hF (fun s2 hF => ?_)
  refine Ev_p 1 (c' := (215, [some (.ref a0), some (.int x1), some (.int x2), some (.int x3), some (.int x4), some (.int x5)], [.ref a0])) rfl ?_
  refine Ez_gr (M := zM103) (ci := 8) (f := 7) (t := 9) rfl rfl h0 rfl ?_
  refine Ev_p 0 (c' := (218, [some (.ref a0), some (.int x1), some (.int x2), some (.int x3), some (.int x4), some (.int x5)], [.ref (zrf a0 7)])) rfl ?_
  refine Ez_gr (M := zM103) (ci := 9) (f := 2) (t := 100) rfl rfl (zty (ci := 8) (f := 7) (t := 9) h0 rfl) rfl ?_
  refine Ev_p 1 (c' := (223, [some (.ref a0), some (.int x1), some (.int x2), some (.int x3), some (.int x4), some (.int x5)], [.int x4, .ref (zrf (zrf a0 7) 2)])) rfl ?_
  refine Ez_al (M := zM103) rfl (zty (ci := 9) (f := 2) (t := 100) (zty (ci := 8) (f := 7) (t := 9) h0 rfl) rfl) hF (fun v3 hF => ?_)
  refine Ev_p 3 (c' := (34, [some (.ref a0), some (.int x1), some (.int x2), some (.int x3), some (.int v3), some (.int (x5 + 1))], [])) rfl ?_
  exact hk34 _ _ _ _ _ _ hF
noncomputable def zf103_114 (a0 : Nat) (k34 : Int32 → Int32 → Int32 → Int32 → Int32 → zS → Option (zS)) (x1 : Int32) (x2 : Int32) (x3 : Int32) (x4 : Int32) (x5 : Int32) (s : zS) : Option (zS) :=
  zbi (zf106 a0 x3 x4 s) fun v1 s2 =>
  if v1 = 0 then
    if x3 = 40 then
      zf103_205 a0 k34 x1 x2 x3 x4 x5 s2
    else
      zar (zrf a0 10) x3 fun q3 =>
      zal s2 q3 x4 fun v4 =>
      zbi (zf97 a0 x3 x4 s2) fun v5 s6 =>
      if ¬ v4 = v5 then
        zf103_205 a0 k34 x1 x2 x3 x4 x5 s6
      else
        zbv (zf105 a0 x3 (-1) (-1) (-1) s6) fun s8 =>
        zal s8 (zrf (zrf a0 6) 2) x3 fun v9 =>
        k34 x1 x2 v9 x4 (x5 + 1) s8
  else
    zbv (zf104 a0 x3 x4 s2) fun s11 =>
    zal s11 (zrf (zrf a0 6) 1) x3 fun v12 =>
    zal s11 (zrf (zrf a0 7) 1) x4 fun v13 =>
    k34 x3 x4 v12 v13 (x5 + 1) s11
theorem zf103_114_ok {K : cx_K} (hK : Kok K) {lg : Nat → Int64} {s' : zS} {a0 : Nat} (h0 : zsh a0 = 8) {k34 : Int32 → Int32 → Int32 → Int32 → Int32 → zS → Option (zS)} (hk34 : ∀ x1 x2 x3 x4 x5 s, k34 x1 x2 x3 x4 x5 s = some s' → Ev K zM103 (34, [some (.ref a0), some (.int x1), some (.int x2), some (.int x3), some (.int x4), some (.int x5)], [], zmk lg s) 0 (.inl none) (zmk lg s') 0) {x1 : Int32} {x2 : Int32} {x3 : Int32} {x4 : Int32} {x5 : Int32}  {s : zS} (hF : zf103_114 a0 k34 x1 x2 x3 x4 x5 s = some s') : Ev K zM103 (114, [some (.ref a0), some (.int x1), some (.int x2), some (.int x3), some (.int x4), some (.int x5)], [], zmk lg s) 0 (.inl none) (zmk lg s') 0 := by
  unfold zf103_114 at hF
  refine Ev_p 3 (c' := (118, [some (.ref a0), some (.int x1), some (.int x2), some (.int x3), some (.int x4), some (.int x5)], [.int x4, .int x3, .ref a0])) rfl ?_
  refine Ez_ci (M := zM103) (As := [.ref a0, .int x3, .int x4]) (st' := []) (am_site_v (y := 106) (k := 3) (ci := 8) rfl rfl (zrcv rfl h0 rfl)) (Nat.le_of_ble_eq_true rfl) (Nat.le_of_ble_eq_true rfl) rfl rfl (fun _ _ hF => zf106_ok hK h0 hF) hF (fun v1 s2 hF => ?_)
  refine Ev_p 0 (c' := (121, [some (.ref a0), some (.int x1), some (.int x2), some (.int x3), some (.int x4), some (.int x5)], [.int v1])) rfl ?_
  refine Ez_if (M := zM103) (b := v1 = 0) rfl rfl hF (fun _ hF => ?_) (fun _ hF => ?_)
  · refine Ev_p 2 (c' := (162, [some (.ref a0), some (.int x1), some (.int x2), some (.int x3), some (.int x4), some (.int x5)], [.int 40, .int x3])) rfl ?_
    refine Ez_if (M := zM103) (b := x3 = 40) rfl rfl hF (fun _ hF => ?_) (fun _ hF => ?_)
    · refine Ev_p 0 (c' := (205, [some (.ref a0), some (.int x1), some (.int x2), some (.int x3), some (.int x4), some (.int x5)], [])) rfl ?_
      exact zf103_205_ok hK h0 hk34 hF
    · refine Ev_p 1 (c' := (166, [some (.ref a0), some (.int x1), some (.int x2), some (.int x3), some (.int x4), some (.int x5)], [.ref a0])) rfl ?_
      refine Ez_gr (M := zM103) (ci := 8) (f := 10) (t := 104) rfl rfl h0 rfl ?_
      refine Ev_p 1 (c' := (170, [some (.ref a0), some (.int x1), some (.int x2), some (.int x3), some (.int x4), some (.int x5)], [.int x3, .ref (zrf a0 10)])) rfl ?_
      refine Ez_ar4 (M := zM103) rfl (zty (ci := 8) (f := 10) (t := 104) h0 rfl) hF (fun q3 hq3 hF => ?_)
      refine Ev_p 1 (c' := (173, [some (.ref a0), some (.int x1), some (.int x2), some (.int x3), some (.int x4), some (.int x5)], [.int x4, .ref q3])) rfl ?_
      refine Ez_al (M := zM103) rfl hq3 hF (fun v4 hF => ?_)
      refine Ev_p 3 (c' := (178, [some (.ref a0), some (.int x1), some (.int x2), some (.int x3), some (.int x4), some (.int x5)], [.int x4, .int x3, .ref a0, .int v4])) rfl ?_
      refine Ez_ci (M := zM103) (As := [.ref a0, .int x3, .int x4]) (st' := [.int v4]) (am_site_v (y := 97) (k := 3) (ci := 8) rfl rfl (zrcv rfl h0 rfl)) (Nat.le_of_ble_eq_true rfl) (Nat.le_of_ble_eq_true rfl) rfl rfl (fun _ _ hF => zf97_ok hK h0 hF) hF (fun v5 s6 hF => ?_)
      refine Ev_p 0 (c' := (181, [some (.ref a0), some (.int x1), some (.int x2), some (.int x3), some (.int x4), some (.int x5)], [.int v5, .int v4])) rfl ?_
      refine Ez_if (M := zM103) (b := ¬ v4 = v5) rfl rfl hF (fun _ hF => ?_) (fun _ hF => ?_)
      · refine Ev_p 0 (c' := (205, [some (.ref a0), some (.int x1), some (.int x2), some (.int x3), some (.int x4), some (.int x5)], [])) rfl ?_
        exact zf103_205_ok hK h0 hk34 hF
      · refine Ev_p 5 (c' := (189, [some (.ref a0), some (.int x1), some (.int x2), some (.int x3), some (.int x4), some (.int x5)], [.int (-1), .int (-1), .int (-1), .int x3, .ref a0])) rfl ?_
        refine Ez_cv (M := zM103) (As := [.ref a0, .int x3, .int (-1), .int (-1), .int (-1)]) (st' := []) (am_site_v (y := 105) (k := 5) (ci := 8) rfl rfl (zrcv rfl h0 rfl)) (Nat.le_of_ble_eq_true rfl) (Nat.le_of_ble_eq_true rfl) rfl rfl (fun _ hF => zf105_ok hK h0 hF) hF (fun s8 hF => ?_)
        refine Ev_p 1 (c' := (193, [some (.ref a0), some (.int x1), some (.int x2), some (.int x3), some (.int x4), some (.int x5)], [.ref a0])) rfl ?_
        refine Ez_gr (M := zM103) (ci := 8) (f := 6) (t := 9) rfl rfl h0 rfl ?_
        refine Ev_p 0 (c' := (196, [some (.ref a0), some (.int x1), some (.int x2), some (.int x3), some (.int x4), some (.int x5)], [.ref (zrf a0 6)])) rfl ?_
        refine Ez_gr (M := zM103) (ci := 9) (f := 2) (t := 100) rfl rfl (zty (ci := 8) (f := 6) (t := 9) h0 rfl) rfl ?_
        refine Ev_p 1 (c' := (200, [some (.ref a0), some (.int x1), some (.int x2), some (.int x3), some (.int x4), some (.int x5)], [.int x3, .ref (zrf (zrf a0 6) 2)])) rfl ?_
        refine Ez_al (M := zM103) rfl (zty (ci := 9) (f := 2) (t := 100) (zty (ci := 8) (f := 6) (t := 9) h0 rfl) rfl) hF (fun v9 hF => ?_)
        refine Ev_p 4 (c' := (34, [some (.ref a0), some (.int x1), some (.int x2), some (.int v9), some (.int x4), some (.int (x5 + 1))], [])) rfl ?_
        exact hk34 _ _ _ _ _ _ hF
  · refine Ev_p 7 (c' := (132, [some (.ref a0), some (.int x3), some (.int x4), some (.int x3), some (.int x4), some (.int x5)], [.int x4, .int x3, .ref a0])) rfl ?_
    refine Ez_cv (M := zM103) (As := [.ref a0, .int x3, .int x4]) (st' := []) (am_site_v (y := 104) (k := 3) (ci := 8) rfl rfl (zrcv rfl h0 rfl)) (Nat.le_of_ble_eq_true rfl) (Nat.le_of_ble_eq_true rfl) rfl rfl (fun _ hF => zf104_ok hK h0 hF) hF (fun s11 hF => ?_)
    refine Ev_p 1 (c' := (136, [some (.ref a0), some (.int x3), some (.int x4), some (.int x3), some (.int x4), some (.int x5)], [.ref a0])) rfl ?_
    refine Ez_gr (M := zM103) (ci := 8) (f := 6) (t := 9) rfl rfl h0 rfl ?_
    refine Ev_p 0 (c' := (139, [some (.ref a0), some (.int x3), some (.int x4), some (.int x3), some (.int x4), some (.int x5)], [.ref (zrf a0 6)])) rfl ?_
    refine Ez_gr (M := zM103) (ci := 9) (f := 1) (t := 100) rfl rfl (zty (ci := 8) (f := 6) (t := 9) h0 rfl) rfl ?_
    refine Ev_p 1 (c' := (143, [some (.ref a0), some (.int x3), some (.int x4), some (.int x3), some (.int x4), some (.int x5)], [.int x3, .ref (zrf (zrf a0 6) 1)])) rfl ?_
    refine Ez_al (M := zM103) rfl (zty (ci := 9) (f := 1) (t := 100) (zty (ci := 8) (f := 6) (t := 9) h0 rfl) rfl) hF (fun v12 hF => ?_)
    refine Ev_p 2 (c' := (146, [some (.ref a0), some (.int x3), some (.int x4), some (.int v12), some (.int x4), some (.int x5)], [.ref a0])) rfl ?_
    refine Ez_gr (M := zM103) (ci := 8) (f := 7) (t := 9) rfl rfl h0 rfl ?_
    refine Ev_p 0 (c' := (149, [some (.ref a0), some (.int x3), some (.int x4), some (.int v12), some (.int x4), some (.int x5)], [.ref (zrf a0 7)])) rfl ?_
    refine Ez_gr (M := zM103) (ci := 9) (f := 1) (t := 100) rfl rfl (zty (ci := 8) (f := 7) (t := 9) h0 rfl) rfl ?_
    refine Ev_p 1 (c' := (153, [some (.ref a0), some (.int x3), some (.int x4), some (.int v12), some (.int x4), some (.int x5)], [.int x4, .ref (zrf (zrf a0 7) 1)])) rfl ?_
    refine Ez_al (M := zM103) rfl (zty (ci := 9) (f := 1) (t := 100) (zty (ci := 8) (f := 7) (t := 9) h0 rfl) rfl) hF (fun v13 hF => ?_)
    refine Ev_p 4 (c' := (34, [some (.ref a0), some (.int x3), some (.int x4), some (.int v12), some (.int v13), some (.int (x5 + 1))], [])) rfl ?_
    exact hk34 _ _ _ _ _ _ hF
noncomputable def zf103_34 (a0 : Nat)  : Nat → Int32 → Int32 → Int32 → Int32 → Int32 → zS → Option (zS)
  | 0, _, _, _, _, _, _ => none
  | n + 1, x1, x2, x3, x4, x5, s =>
    if 160 ≤ x5 then
      some s
    else
      if ¬ x3 = 40 then
        zf103_114 a0 (zf103_34 a0 n) x1 x2 x3 x4 x5 s
      else
        if ¬ x4 = 40 then
          zf103_114 a0 (zf103_34 a0 n) x1 x2 x3 x4 x5 s
        else
          if x1 = 0 then
            some s
          else
            if ¬ x2 = 0 then
              zal s (zrf (zrf a0 6) 2) x1 fun v1 =>
              zal s (zrf (zrf a0 7) 2) x2 fun v2 =>
              zal s (zrf (zrf (zrf a0 6) 0) 1) x1 fun v3 =>
              zal s (zrf (zrf (zrf a0 7) 0) 1) x2 fun v4 =>
              zf103_34 a0 n v3 v4 v1 v2 (x5 + 1) s
            else
              some s
theorem zf103_34_ok {K : cx_K} (hK : Kok K) {lg : Nat → Int64} {s' : zS} {a0 : Nat} (h0 : zsh a0 = 8)   {n : Nat} : ∀ {x1 : Int32} {x2 : Int32} {x3 : Int32} {x4 : Int32} {x5 : Int32} {s : zS}, zf103_34 a0 n x1 x2 x3 x4 x5 s = some s' → Ev K zM103 (34, [some (.ref a0), some (.int x1), some (.int x2), some (.int x3), some (.int x4), some (.int x5)], [], zmk lg s) 0 (.inl none) (zmk lg s') 0 := by
  induction n with
  | zero => intro x1 x2 x3 x4 x5 s hF; rw [zf103_34] at hF; cases hF
  | succ n ih =>
    intro x1 x2 x3 x4 x5 s hF
    rw [zf103_34] at hF
    refine Ev_p 2 (c' := (39, [some (.ref a0), some (.int x1), some (.int x2), some (.int x3), some (.int x4), some (.int x5)], [.int 160, .int x5])) rfl ?_
    refine Ez_if (M := zM103) (b := 160 ≤ x5) rfl rfl hF (fun _ hF => ?_) (fun _ hF => ?_)
    · refine Ev_p 0 (c' := (232, [some (.ref a0), some (.int x1), some (.int x2), some (.int x3), some (.int x4), some (.int x5)], [])) rfl ?_
      exact Ez_rv (M := zM103) rfl rfl hF
    · refine Ev_p 2 (c' := (45, [some (.ref a0), some (.int x1), some (.int x2), some (.int x3), some (.int x4), some (.int x5)], [.int 40, .int x3])) rfl ?_
      refine Ez_if (M := zM103) (b := ¬ x3 = 40) rfl rfl hF (fun _ hF => ?_) (fun _ hF => ?_)
      · refine Ev_p 0 (c' := (114, [some (.ref a0), some (.int x1), some (.int x2), some (.int x3), some (.int x4), some (.int x5)], [])) rfl ?_
        exact zf103_114_ok hK h0 (fun _ _ _ _ _ _ hF => ih hF) hF
      · refine Ev_p 2 (c' := (52, [some (.ref a0), some (.int x1), some (.int x2), some (.int x3), some (.int x4), some (.int x5)], [.int 40, .int x4])) rfl ?_
        refine Ez_if (M := zM103) (b := ¬ x4 = 40) rfl rfl hF (fun _ hF => ?_) (fun _ hF => ?_)
        · refine Ev_p 0 (c' := (114, [some (.ref a0), some (.int x1), some (.int x2), some (.int x3), some (.int x4), some (.int x5)], [])) rfl ?_
          exact zf103_114_ok hK h0 (fun _ _ _ _ _ _ hF => ih hF) hF
        · refine Ev_p 1 (c' := (56, [some (.ref a0), some (.int x1), some (.int x2), some (.int x3), some (.int x4), some (.int x5)], [.int x1])) rfl ?_
          refine Ez_if (M := zM103) (b := x1 = 0) rfl rfl hF (fun _ hF => ?_) (fun _ hF => ?_)
          · refine Ev_p 0 (c' := (63, [some (.ref a0), some (.int x1), some (.int x2), some (.int x3), some (.int x4), some (.int x5)], [])) rfl ?_
            exact Ez_rv (M := zM103) rfl rfl hF
          · refine Ev_p 1 (c' := (60, [some (.ref a0), some (.int x1), some (.int x2), some (.int x3), some (.int x4), some (.int x5)], [.int x2])) rfl ?_
            refine Ez_if (M := zM103) (b := ¬ x2 = 0) rfl rfl hF (fun _ hF => ?_) (fun _ hF => ?_)
            · refine Ev_p 1 (c' := (65, [some (.ref a0), some (.int x1), some (.int x2), some (.int x3), some (.int x4), some (.int x5)], [.ref a0])) rfl ?_
              refine Ez_gr (M := zM103) (ci := 8) (f := 6) (t := 9) rfl rfl h0 rfl ?_
              refine Ev_p 0 (c' := (68, [some (.ref a0), some (.int x1), some (.int x2), some (.int x3), some (.int x4), some (.int x5)], [.ref (zrf a0 6)])) rfl ?_
              refine Ez_gr (M := zM103) (ci := 9) (f := 2) (t := 100) rfl rfl (zty (ci := 8) (f := 6) (t := 9) h0 rfl) rfl ?_
              refine Ev_p 1 (c' := (72, [some (.ref a0), some (.int x1), some (.int x2), some (.int x3), some (.int x4), some (.int x5)], [.int x1, .ref (zrf (zrf a0 6) 2)])) rfl ?_
              refine Ez_al (M := zM103) rfl (zty (ci := 9) (f := 2) (t := 100) (zty (ci := 8) (f := 6) (t := 9) h0 rfl) rfl) hF (fun v1 hF => ?_)
              refine Ev_p 2 (c' := (75, [some (.ref a0), some (.int x1), some (.int x2), some (.int v1), some (.int x4), some (.int x5)], [.ref a0])) rfl ?_
              refine Ez_gr (M := zM103) (ci := 8) (f := 7) (t := 9) rfl rfl h0 rfl ?_
              refine Ev_p 0 (c' := (78, [some (.ref a0), some (.int x1), some (.int x2), some (.int v1), some (.int x4), some (.int x5)], [.ref (zrf a0 7)])) rfl ?_
              refine Ez_gr (M := zM103) (ci := 9) (f := 2) (t := 100) rfl rfl (zty (ci := 8) (f := 7) (t := 9) h0 rfl) rfl ?_
              refine Ev_p 1 (c' := (82, [some (.ref a0), some (.int x1), some (.int x2), some (.int v1), some (.int x4), some (.int x5)], [.int x2, .ref (zrf (zrf a0 7) 2)])) rfl ?_
              refine Ez_al (M := zM103) rfl (zty (ci := 9) (f := 2) (t := 100) (zty (ci := 8) (f := 7) (t := 9) h0 rfl) rfl) hF (fun v2 hF => ?_)
              refine Ev_p 2 (c' := (86, [some (.ref a0), some (.int x1), some (.int x2), some (.int v1), some (.int v2), some (.int x5)], [.ref a0])) rfl ?_
              refine Ez_gr (M := zM103) (ci := 8) (f := 6) (t := 9) rfl rfl h0 rfl ?_
              refine Ev_p 0 (c' := (89, [some (.ref a0), some (.int x1), some (.int x2), some (.int v1), some (.int v2), some (.int x5)], [.ref (zrf a0 6)])) rfl ?_
              refine Ez_gr (M := zM103) (ci := 9) (f := 0) (t := 2) rfl rfl (zty (ci := 8) (f := 6) (t := 9) h0 rfl) rfl ?_
              refine Ev_p 0 (c' := (92, [some (.ref a0), some (.int x1), some (.int x2), some (.int v1), some (.int v2), some (.int x5)], [.ref (zrf (zrf a0 6) 0)])) rfl ?_
              refine Ez_gr (M := zM103) (ci := 2) (f := 1) (t := 100) rfl rfl (zty (ci := 9) (f := 0) (t := 2) (zty (ci := 8) (f := 6) (t := 9) h0 rfl) rfl) rfl ?_
              refine Ev_p 1 (c' := (96, [some (.ref a0), some (.int x1), some (.int x2), some (.int v1), some (.int v2), some (.int x5)], [.int x1, .ref (zrf (zrf (zrf a0 6) 0) 1)])) rfl ?_
              refine Ez_al (M := zM103) rfl (zty (ci := 2) (f := 1) (t := 100) (zty (ci := 9) (f := 0) (t := 2) (zty (ci := 8) (f := 6) (t := 9) h0 rfl) rfl) rfl) hF (fun v3 hF => ?_)
              refine Ev_p 2 (c' := (99, [some (.ref a0), some (.int v3), some (.int x2), some (.int v1), some (.int v2), some (.int x5)], [.ref a0])) rfl ?_
              refine Ez_gr (M := zM103) (ci := 8) (f := 7) (t := 9) rfl rfl h0 rfl ?_
              refine Ev_p 0 (c' := (102, [some (.ref a0), some (.int v3), some (.int x2), some (.int v1), some (.int v2), some (.int x5)], [.ref (zrf a0 7)])) rfl ?_
              refine Ez_gr (M := zM103) (ci := 9) (f := 0) (t := 2) rfl rfl (zty (ci := 8) (f := 7) (t := 9) h0 rfl) rfl ?_
              refine Ev_p 0 (c' := (105, [some (.ref a0), some (.int v3), some (.int x2), some (.int v1), some (.int v2), some (.int x5)], [.ref (zrf (zrf a0 7) 0)])) rfl ?_
              refine Ez_gr (M := zM103) (ci := 2) (f := 1) (t := 100) rfl rfl (zty (ci := 9) (f := 0) (t := 2) (zty (ci := 8) (f := 7) (t := 9) h0 rfl) rfl) rfl ?_
              refine Ev_p 1 (c' := (109, [some (.ref a0), some (.int v3), some (.int x2), some (.int v1), some (.int v2), some (.int x5)], [.int x2, .ref (zrf (zrf (zrf a0 7) 0) 1)])) rfl ?_
              refine Ez_al (M := zM103) rfl (zty (ci := 2) (f := 1) (t := 100) (zty (ci := 9) (f := 0) (t := 2) (zty (ci := 8) (f := 7) (t := 9) h0 rfl) rfl) rfl) hF (fun v4 hF => ?_)
              refine Ev_p 4 (c' := (34, [some (.ref a0), some (.int v3), some (.int v4), some (.int v1), some (.int v2), some (.int (x5 + 1))], [])) rfl ?_
              exact ih hF
            · refine Ev_p 0 (c' := (63, [some (.ref a0), some (.int x1), some (.int x2), some (.int x3), some (.int x4), some (.int x5)], [])) rfl ?_
              exact Ez_rv (M := zM103) rfl rfl hF
noncomputable def zf103 (a0 : Nat) (s : zS) : Option (zS) :=
  zbv (zf104 a0 0 0 s) fun s2 =>
  zal s2 (zrf (zrf a0 6) 1) 0 fun v3 =>
  zal s2 (zrf (zrf a0 7) 1) 0 fun v4 =>
  zf103_34 a0 zfz 0 0 v3 v4 0 s2
theorem zf103_ok {K : cx_K} (hK : Kok K) {lg : Nat → Int64} {s' : zS} {a0 : Nat} (h0 : zsh a0 = 8)  {s : zS} (hF : zf103 a0 s = some s') : Ct K 103 [.ref a0] (zmk lg s) (.inl none) (zmk lg s') 0 := by
  unfold zf103 at hF
  refine Ct_of hK nd_ok103 (mL := 6) (rt := none) rfl rfl (Nat.le_of_ble_eq_true rfl) zlen_le ?_
  refine Ev_p 7 (c' := (7, [some (.ref a0), some (.int 0), some (.int 0), none, none, none], [.int 0, .int 0, .ref a0])) rfl ?_
  refine Ez_cv (M := zM103) (As := [.ref a0, .int 0, .int 0]) (st' := []) (am_site_v (y := 104) (k := 3) (ci := 8) rfl rfl (zrcv rfl h0 rfl)) (Nat.le_of_ble_eq_true rfl) (Nat.le_of_ble_eq_true rfl) rfl rfl (fun _ hF => zf104_ok hK h0 hF) hF (fun s2 hF => ?_)
  refine Ev_p 1 (c' := (11, [some (.ref a0), some (.int 0), some (.int 0), none, none, none], [.ref a0])) rfl ?_
  refine Ez_gr (M := zM103) (ci := 8) (f := 6) (t := 9) rfl rfl h0 rfl ?_
  refine Ev_p 0 (c' := (14, [some (.ref a0), some (.int 0), some (.int 0), none, none, none], [.ref (zrf a0 6)])) rfl ?_
  refine Ez_gr (M := zM103) (ci := 9) (f := 1) (t := 100) rfl rfl (zty (ci := 8) (f := 6) (t := 9) h0 rfl) rfl ?_
  refine Ev_p 1 (c' := (18, [some (.ref a0), some (.int 0), some (.int 0), none, none, none], [.int 0, .ref (zrf (zrf a0 6) 1)])) rfl ?_
  refine Ez_al (M := zM103) rfl (zty (ci := 9) (f := 1) (t := 100) (zty (ci := 8) (f := 6) (t := 9) h0 rfl) rfl) hF (fun v3 hF => ?_)
  refine Ev_p 2 (c' := (21, [some (.ref a0), some (.int 0), some (.int 0), some (.int v3), none, none], [.ref a0])) rfl ?_
  refine Ez_gr (M := zM103) (ci := 8) (f := 7) (t := 9) rfl rfl h0 rfl ?_
  refine Ev_p 0 (c' := (24, [some (.ref a0), some (.int 0), some (.int 0), some (.int v3), none, none], [.ref (zrf a0 7)])) rfl ?_
  refine Ez_gr (M := zM103) (ci := 9) (f := 1) (t := 100) rfl rfl (zty (ci := 8) (f := 7) (t := 9) h0 rfl) rfl ?_
  refine Ev_p 1 (c' := (28, [some (.ref a0), some (.int 0), some (.int 0), some (.int v3), none, none], [.int 0, .ref (zrf (zrf a0 7) 1)])) rfl ?_
  refine Ez_al (M := zM103) rfl (zty (ci := 9) (f := 1) (t := 100) (zty (ci := 8) (f := 7) (t := 9) h0 rfl) rfl) hF (fun v4 hF => ?_)
  refine Ev_p 3 (c' := (34, [some (.ref a0), some (.int 0), some (.int 0), some (.int v3), some (.int v4), some (.int 0)], [])) rfl ?_
  exact zf103_34_ok hK h0 hF
-- PaperParcels$Script.find()I
abbrev zM94 : ev_M := (am_in nd_i94, am_fl nd_f8, am_ct nd_k8, am_sl nd_ml nd_s94, fun _ => none, some .int)
noncomputable def zf94 (a0 : Nat) (s : zS) : Option (Int32 × zS) :=
  zbv (zf95 (zrf a0 6) s) fun s2 =>
  zbv (zf95 (zrf a0 7) s2) fun s4 =>
  zbv (zf96 a0 s4) fun s6 =>
  zbv (zf81 a0 s6) fun s8 =>
  zpb s8 a0 0 1 fun s9 =>
  zbv (zf103 a0 s9) fun s11 =>
  zar (zrf a0 9) 0 fun q12 =>
  zal s11 q12 0 fun v13 =>
  some (v13, s11)
theorem zf94_ok {K : cx_K} (hK : Kok K) {lg : Nat → Int64} {v : Int32} {s' : zS} {a0 : Nat} (h0 : zsh a0 = 8)  {s : zS} (hF : zf94 a0 s = some (v, s')) : Ct K 94 [.ref a0] (zmk lg s) (.inl (some (.int v))) (zmk lg s') 0 := by
  unfold zf94 at hF
  refine Ct_of hK nd_ok94 (mL := 1) (rt := some .int) rfl rfl (Nat.le_of_ble_eq_true rfl) zlen_le ?_
  refine Ev_p 1 (c' := (1, [some (.ref a0)], [.ref a0])) rfl ?_
  refine Ez_gr (M := zM94) (ci := 8) (f := 6) (t := 9) rfl rfl h0 rfl ?_
  refine Ev_p 0 (c' := (4, [some (.ref a0)], [.ref (zrf a0 6)])) rfl ?_
  refine Ez_cv (M := zM94) (As := [.ref (zrf a0 6)]) (st' := []) (am_site_v (y := 95) (k := 1) (ci := 9) rfl rfl (zrcv rfl (zty (ci := 8) (f := 6) (t := 9) h0 rfl) rfl)) (Nat.le_of_ble_eq_true rfl) (Nat.le_of_ble_eq_true rfl) rfl rfl (fun _ hF => zf95_ok hK (zty (ci := 8) (f := 6) (t := 9) h0 rfl) hF) hF (fun s2 hF => ?_)
  refine Ev_p 1 (c' := (8, [some (.ref a0)], [.ref a0])) rfl ?_
  refine Ez_gr (M := zM94) (ci := 8) (f := 7) (t := 9) rfl rfl h0 rfl ?_
  refine Ev_p 0 (c' := (11, [some (.ref a0)], [.ref (zrf a0 7)])) rfl ?_
  refine Ez_cv (M := zM94) (As := [.ref (zrf a0 7)]) (st' := []) (am_site_v (y := 95) (k := 1) (ci := 9) rfl rfl (zrcv rfl (zty (ci := 8) (f := 7) (t := 9) h0 rfl) rfl)) (Nat.le_of_ble_eq_true rfl) (Nat.le_of_ble_eq_true rfl) rfl rfl (fun _ hF => zf95_ok hK (zty (ci := 8) (f := 7) (t := 9) h0 rfl) hF) hF (fun s4 hF => ?_)
  refine Ev_p 1 (c' := (15, [some (.ref a0)], [.ref a0])) rfl ?_
  refine Ez_cv (M := zM94) (As := [.ref a0]) (st' := []) (am_site_v (y := 96) (k := 1) (ci := 8) rfl rfl (zrcv rfl h0 rfl)) (Nat.le_of_ble_eq_true rfl) (Nat.le_of_ble_eq_true rfl) rfl rfl (fun _ hF => zf96_ok hK h0 hF) hF (fun s6 hF => ?_)
  refine Ev_p 1 (c' := (19, [some (.ref a0)], [.ref a0])) rfl ?_
  refine Ez_cv (M := zM94) (As := [.ref a0]) (st' := []) (am_site_v (y := 81) (k := 1) (ci := 8) rfl rfl (zrcv rfl h0 rfl)) (Nat.le_of_ble_eq_true rfl) (Nat.le_of_ble_eq_true rfl) rfl rfl (fun _ hF => zf81_ok hK h0 hF) hF (fun s8 hF => ?_)
  refine Ev_p 2 (c' := (24, [some (.ref a0)], [.int 1, .ref a0])) rfl ?_
  refine Ez_pb (M := zM94) (ci := 8) (f := 0) rfl rfl h0 rfl hF (fun s9 hF => ?_)
  refine Ev_p 1 (c' := (28, [some (.ref a0)], [.ref a0])) rfl ?_
  refine Ez_cv (M := zM94) (As := [.ref a0]) (st' := []) (am_site_v (y := 103) (k := 1) (ci := 8) rfl rfl (zrcv rfl h0 rfl)) (Nat.le_of_ble_eq_true rfl) (Nat.le_of_ble_eq_true rfl) rfl rfl (fun _ hF => zf103_ok hK h0 hF) hF (fun s11 hF => ?_)
  refine Ev_p 1 (c' := (32, [some (.ref a0)], [.ref a0])) rfl ?_
  refine Ez_gr (M := zM94) (ci := 8) (f := 9) (t := 104) rfl rfl h0 rfl ?_
  refine Ev_p 1 (c' := (36, [some (.ref a0)], [.int 0, .ref (zrf a0 9)])) rfl ?_
  refine Ez_ar4 (M := zM94) rfl (zty (ci := 8) (f := 9) (t := 104) h0 rfl) hF (fun q12 hq12 hF => ?_)
  refine Ev_p 1 (c' := (38, [some (.ref a0)], [.int 0, .ref q12])) rfl ?_
  refine Ez_al (M := zM94) rfl hq12 hF (fun v13 hF => ?_)
  refine Ev_p 0 (c' := (39, [some (.ref a0)], [.int v13])) rfl ?_
  exact Ez_ri (M := zM94) rfl rfl hF
-- PaperParcels.compare()I
abbrev zM92 : ev_M := (am_in nd_i92, am_fl nd_f0, am_ct nd_k0, am_sl nd_ml nd_s92, nx_exc, some .int)
noncomputable def zf92 (a0 : Nat) (s : zS) : Option (am_O × zS × Nat) :=
  zar (zrf a0 1) 0 fun q1 =>
  zgf s q1 6 fun v2 =>
  if v2 = 0 then
    some (.inr (hx_E 2), s, 1)
  else
    zar (zrf a0 1) 1 fun q3 =>
    zgf s q3 6 fun v4 =>
    if ¬ v4 = 0 then
      zbi (zf94 (zrf a0 3) s) fun v5 s6 =>
      some (.inl (some (.int v5)), s6, 0)
    else
      some (.inr (hx_E 2), s, 1)
theorem zf92_ok {K : cx_K} (hK : Kok K) {lg : Nat → Int64} {o : am_O} {g' : Nat} {s' : zS} {a0 : Nat} (h0 : zsh a0 = 0)  {s : zS} (hF : zf92 a0 s = some (o, s', g')) : Ct K 92 [.ref a0] (zmk lg s) (o) (zmk lg s') g' := by
  unfold zf92 at hF
  refine Ct_ofX hK nd_ok92 (exc := nx_exc) (nx_Xw (Nat.le_of_ble_eq_true rfl) (Nat.le_of_ble_eq_true rfl)) (mL := 1) (rt := some .int) rfl rfl (Nat.le_of_ble_eq_true rfl) zlen_le ?_
  refine Ev_p 1 (c' := (1, [some (.ref a0)], [.ref a0])) rfl ?_
  refine Ez_gr (M := zM92) (ci := 0) (f := 1) (t := 103) rfl rfl h0 rfl ?_
  refine Ev_p 1 (c' := (5, [some (.ref a0)], [.int 0, .ref (zrf a0 1)])) rfl ?_
  refine Ez_ar3 (M := zM92) rfl (zty (ci := 0) (f := 1) (t := 103) h0 rfl) hF (fun q1 hq1 hF => ?_)
  refine Ev_p 0 (c' := (6, [some (.ref a0)], [.ref q1])) rfl ?_
  refine Ez_gf (M := zM92) (ci := 2) (f := 6) rfl rfl hq1 rfl hF (fun v2 hF => ?_)
  refine Ev_p 0 (c' := (9, [some (.ref a0)], [.int v2])) rfl ?_
  refine Ez_if (M := zM92) (b := v2 = 0) rfl rfl hF (fun _ hF => ?_) (fun _ hF => ?_)
  · refine Ev_p 0 (c' := (24, [some (.ref a0)], [])) rfl ?_
    exact Ez_thr (M := zM92) rfl hF
  · refine Ev_p 1 (c' := (13, [some (.ref a0)], [.ref a0])) rfl ?_
    refine Ez_gr (M := zM92) (ci := 0) (f := 1) (t := 103) rfl rfl h0 rfl ?_
    refine Ev_p 1 (c' := (17, [some (.ref a0)], [.int 1, .ref (zrf a0 1)])) rfl ?_
    refine Ez_ar3 (M := zM92) rfl (zty (ci := 0) (f := 1) (t := 103) h0 rfl) hF (fun q3 hq3 hF => ?_)
    refine Ev_p 0 (c' := (18, [some (.ref a0)], [.ref q3])) rfl ?_
    refine Ez_gf (M := zM92) (ci := 2) (f := 6) rfl rfl hq3 rfl hF (fun v4 hF => ?_)
    refine Ev_p 0 (c' := (21, [some (.ref a0)], [.int v4])) rfl ?_
    refine Ez_if (M := zM92) (b := ¬ v4 = 0) rfl rfl hF (fun _ hF => ?_) (fun _ hF => ?_)
    · refine Ev_p 1 (c' := (33, [some (.ref a0)], [.ref a0])) rfl ?_
      refine Ez_gr (M := zM92) (ci := 0) (f := 3) (t := 8) rfl rfl h0 rfl ?_
      refine Ev_p 0 (c' := (36, [some (.ref a0)], [.ref (zrf a0 3)])) rfl ?_
      refine Ez_ci (M := zM92) (As := [.ref (zrf a0 3)]) (st' := []) (am_site_v (y := 94) (k := 1) (ci := 8) rfl rfl (zrcv rfl (zty (ci := 0) (f := 3) (t := 8) h0 rfl) rfl)) (Nat.le_of_ble_eq_true rfl) (Nat.le_of_ble_eq_true rfl) rfl rfl (fun _ _ hF => zf94_ok hK (zty (ci := 0) (f := 3) (t := 8) h0 rfl) hF) hF (fun v5 s6 hF => ?_)
      refine Ev_p 0 (c' := (39, [some (.ref a0)], [.int v5])) rfl ?_
      exact Ez_xri (M := zM92) rfl rfl hF
    · refine Ev_p 0 (c' := (24, [some (.ref a0)], [])) rfl ?_
      exact Ez_thr (M := zM92) rfl hF
-- PaperParcels.step(IZ)I
abbrev zM107 : ev_M := (am_in nd_i107, am_fl nd_f0, am_ct nd_k0, am_sl nd_ml nd_s107, nx_exc, some .int)
noncomputable def zf107 (a0 : Nat) (x1 : Int32) (x2 : Int32) (s : zS) : Option (am_O × zS × Nat) :=
  if x1 < 0 then
    some (.inr (hx_E 1), s, 1)
  else
    zgf s (zrf a0 3) 1 fun v1 =>
    if x1 < v1 then
      if x2 = 0 then
        zal s (zrf (zrf a0 3) 2) x1 fun v2 =>
        some (.inl (some (.int v2)), s, 0)
      else
        zal s (zrf (zrf a0 3) 3) x1 fun v3 =>
        some (.inl (some (.int v3)), s, 0)
    else
      some (.inr (hx_E 1), s, 1)
theorem zf107_ok {K : cx_K} (hK : Kok K) {lg : Nat → Int64} {o : am_O} {g' : Nat} {s' : zS} {a0 : Nat} (h0 : zsh a0 = 0) {x1 : Int32} {x2 : Int32} {s : zS} (hF : zf107 a0 x1 x2 s = some (o, s', g')) : Ct K 107 [.ref a0, .int x1, .int x2] (zmk lg s) (o) (zmk lg s') g' := by
  unfold zf107 at hF
  refine Ct_ofX hK nd_ok107 (exc := nx_exc) (nx_Xw (Nat.le_of_ble_eq_true rfl) (Nat.le_of_ble_eq_true rfl)) (mL := 3) (rt := some .int) rfl rfl (Nat.le_of_ble_eq_true rfl) zlen_le ?_
  refine Ev_p 1 (c' := (1, [some (.ref a0), some (.int x1), some (.int x2)], [.int x1])) rfl ?_
  refine Ez_if (M := zM107) (b := x1 < 0) rfl rfl hF (fun _ hF => ?_) (fun _ hF => ?_)
  · refine Ev_p 0 (c' := (15, [some (.ref a0), some (.int x1), some (.int x2)], [])) rfl ?_
    exact Ez_thr (M := zM107) rfl hF
  · refine Ev_p 2 (c' := (6, [some (.ref a0), some (.int x1), some (.int x2)], [.ref a0, .int x1])) rfl ?_
    refine Ez_gr (M := zM107) (ci := 0) (f := 3) (t := 8) rfl rfl h0 rfl ?_
    refine Ev_p 0 (c' := (9, [some (.ref a0), some (.int x1), some (.int x2)], [.ref (zrf a0 3), .int x1])) rfl ?_
    refine Ez_gf (M := zM107) (ci := 8) (f := 1) rfl rfl (zty (ci := 0) (f := 3) (t := 8) h0 rfl) rfl hF (fun v1 hF => ?_)
    refine Ev_p 0 (c' := (12, [some (.ref a0), some (.int x1), some (.int x2)], [.int v1, .int x1])) rfl ?_
    refine Ez_if (M := zM107) (b := x1 < v1) rfl rfl hF (fun _ hF => ?_) (fun _ hF => ?_)
    · refine Ev_p 1 (c' := (24, [some (.ref a0), some (.int x1), some (.int x2)], [.int x2])) rfl ?_
      refine Ez_if (M := zM107) (b := x2 = 0) rfl rfl hF (fun _ hF => ?_) (fun _ hF => ?_)
      · refine Ev_p 1 (c' := (40, [some (.ref a0), some (.int x1), some (.int x2)], [.ref a0])) rfl ?_
        refine Ez_gr (M := zM107) (ci := 0) (f := 3) (t := 8) rfl rfl h0 rfl ?_
        refine Ev_p 0 (c' := (43, [some (.ref a0), some (.int x1), some (.int x2)], [.ref (zrf a0 3)])) rfl ?_
        refine Ez_gr (M := zM107) (ci := 8) (f := 2) (t := 100) rfl rfl (zty (ci := 0) (f := 3) (t := 8) h0 rfl) rfl ?_
        refine Ev_p 1 (c' := (47, [some (.ref a0), some (.int x1), some (.int x2)], [.int x1, .ref (zrf (zrf a0 3) 2)])) rfl ?_
        refine Ez_al (M := zM107) rfl (zty (ci := 8) (f := 2) (t := 100) (zty (ci := 0) (f := 3) (t := 8) h0 rfl) rfl) hF (fun v2 hF => ?_)
        refine Ev_p 0 (c' := (48, [some (.ref a0), some (.int x1), some (.int x2)], [.int v2])) rfl ?_
        exact Ez_xri (M := zM107) rfl rfl hF
      · refine Ev_p 1 (c' := (28, [some (.ref a0), some (.int x1), some (.int x2)], [.ref a0])) rfl ?_
        refine Ez_gr (M := zM107) (ci := 0) (f := 3) (t := 8) rfl rfl h0 rfl ?_
        refine Ev_p 0 (c' := (31, [some (.ref a0), some (.int x1), some (.int x2)], [.ref (zrf a0 3)])) rfl ?_
        refine Ez_gr (M := zM107) (ci := 8) (f := 3) (t := 100) rfl rfl (zty (ci := 0) (f := 3) (t := 8) h0 rfl) rfl ?_
        refine Ev_p 1 (c' := (35, [some (.ref a0), some (.int x1), some (.int x2)], [.int x1, .ref (zrf (zrf a0 3) 3)])) rfl ?_
        refine Ez_al (M := zM107) rfl (zty (ci := 8) (f := 3) (t := 100) (zty (ci := 0) (f := 3) (t := 8) h0 rfl) rfl) hF (fun v3 hF => ?_)
        refine Ev_p 1 (c' := (48, [some (.ref a0), some (.int x1), some (.int x2)], [.int v3])) rfl ?_
        exact Ez_xri (M := zM107) rfl rfl hF
    · refine Ev_p 0 (c' := (15, [some (.ref a0), some (.int x1), some (.int x2)], [])) rfl ?_
      exact Ez_thr (M := zM107) rfl hF
-- PaperParcels$Script.copyFresh(II)V
abbrev zM113 : ev_M := (am_in nd_i113, am_fl nd_f8, am_ct nd_k8, am_sl nd_ml nd_s113, fun _ => none, none)
noncomputable def zf113_31 (a0 : Nat)  : Nat → Int32 → Int32 → Int32 → zS → Option (zS)
  | 0, _, _, _, _ => none
  | n + 1, x1, x3, x4, s =>
    zgf s (zrf (zrf a0 7) 0) 6 fun v1 =>
    if v1 ≤ x4 then
      some s
    else
      zal s (zrf (zrf (zrf a0 7) 0) 1) x4 fun v2 =>
      if v2 < x1 then
        some s
      else
        zal s (zrf (zrf (zrf a0 7) 0) 1) x4 fun v3 =>
        zbv (zf80 (zrf a0 8) (zrf (zrf a0 7) 0) x4 (v3 + x3) s) fun s5 =>
        zf113_31 a0 n x1 x3 (x4 + 1) s5
theorem zf113_31_ok {K : cx_K} (hK : Kok K) {lg : Nat → Int64} {s' : zS} {a0 : Nat} (h0 : zsh a0 = 8)   {n : Nat} : ∀ {x1 : Int32} {x3 : Int32} {x4 : Int32} {s : zS}, zf113_31 a0 n x1 x3 x4 s = some s' → Ev K zM113 (31, [some (.ref a0), some (.int x1), none, some (.int x3), some (.int x4)], [], zmk lg s) 0 (.inl none) (zmk lg s') 0 := by
  induction n with
  | zero => intro x1 x3 x4 s hF; rw [zf113_31] at hF; cases hF
  | succ n ih =>
    intro x1 x3 x4 s hF
    rw [zf113_31] at hF
    refine Ev_p 2 (c' := (34, [some (.ref a0), some (.int x1), none, some (.int x3), some (.int x4)], [.ref a0, .int x4])) rfl ?_
    refine Ez_gr (M := zM113) (ci := 8) (f := 7) (t := 9) rfl rfl h0 rfl ?_
    refine Ev_p 0 (c' := (37, [some (.ref a0), some (.int x1), none, some (.int x3), some (.int x4)], [.ref (zrf a0 7), .int x4])) rfl ?_
    refine Ez_gr (M := zM113) (ci := 9) (f := 0) (t := 2) rfl rfl (zty (ci := 8) (f := 7) (t := 9) h0 rfl) rfl ?_
    refine Ev_p 0 (c' := (40, [some (.ref a0), some (.int x1), none, some (.int x3), some (.int x4)], [.ref (zrf (zrf a0 7) 0), .int x4])) rfl ?_
    refine Ez_gf (M := zM113) (ci := 2) (f := 6) rfl rfl (zty (ci := 9) (f := 0) (t := 2) (zty (ci := 8) (f := 7) (t := 9) h0 rfl) rfl) rfl hF (fun v1 hF => ?_)
    refine Ev_p 0 (c' := (43, [some (.ref a0), some (.int x1), none, some (.int x3), some (.int x4)], [.int v1, .int x4])) rfl ?_
    refine Ez_if (M := zM113) (b := v1 ≤ x4) rfl rfl hF (fun _ hF => ?_) (fun _ hF => ?_)
    · refine Ev_p 0 (c' := (100, [some (.ref a0), some (.int x1), none, some (.int x3), some (.int x4)], [])) rfl ?_
      exact Ez_rv (M := zM113) rfl rfl hF
    · refine Ev_p 1 (c' := (47, [some (.ref a0), some (.int x1), none, some (.int x3), some (.int x4)], [.ref a0])) rfl ?_
      refine Ez_gr (M := zM113) (ci := 8) (f := 7) (t := 9) rfl rfl h0 rfl ?_
      refine Ev_p 0 (c' := (50, [some (.ref a0), some (.int x1), none, some (.int x3), some (.int x4)], [.ref (zrf a0 7)])) rfl ?_
      refine Ez_gr (M := zM113) (ci := 9) (f := 0) (t := 2) rfl rfl (zty (ci := 8) (f := 7) (t := 9) h0 rfl) rfl ?_
      refine Ev_p 0 (c' := (53, [some (.ref a0), some (.int x1), none, some (.int x3), some (.int x4)], [.ref (zrf (zrf a0 7) 0)])) rfl ?_
      refine Ez_gr (M := zM113) (ci := 2) (f := 1) (t := 100) rfl rfl (zty (ci := 9) (f := 0) (t := 2) (zty (ci := 8) (f := 7) (t := 9) h0 rfl) rfl) rfl ?_
      refine Ev_p 1 (c' := (58, [some (.ref a0), some (.int x1), none, some (.int x3), some (.int x4)], [.int x4, .ref (zrf (zrf (zrf a0 7) 0) 1)])) rfl ?_
      refine Ez_al (M := zM113) rfl (zty (ci := 2) (f := 1) (t := 100) (zty (ci := 9) (f := 0) (t := 2) (zty (ci := 8) (f := 7) (t := 9) h0 rfl) rfl) rfl) hF (fun v2 hF => ?_)
      refine Ev_p 1 (c' := (60, [some (.ref a0), some (.int x1), none, some (.int x3), some (.int x4)], [.int x1, .int v2])) rfl ?_
      refine Ez_if (M := zM113) (b := v2 < x1) rfl rfl hF (fun _ hF => ?_) (fun _ hF => ?_)
      · refine Ev_p 0 (c' := (100, [some (.ref a0), some (.int x1), none, some (.int x3), some (.int x4)], [])) rfl ?_
        exact Ez_rv (M := zM113) rfl rfl hF
      · refine Ev_p 1 (c' := (64, [some (.ref a0), some (.int x1), none, some (.int x3), some (.int x4)], [.ref a0])) rfl ?_
        refine Ez_gr (M := zM113) (ci := 8) (f := 8) (t := 2) rfl rfl h0 rfl ?_
        refine Ev_p 1 (c' := (68, [some (.ref a0), some (.int x1), none, some (.int x3), some (.int x4)], [.ref a0, .ref (zrf a0 8)])) rfl ?_
        refine Ez_gr (M := zM113) (ci := 8) (f := 7) (t := 9) rfl rfl h0 rfl ?_
        refine Ev_p 0 (c' := (71, [some (.ref a0), some (.int x1), none, some (.int x3), some (.int x4)], [.ref (zrf a0 7), .ref (zrf a0 8)])) rfl ?_
        refine Ez_gr (M := zM113) (ci := 9) (f := 0) (t := 2) rfl rfl (zty (ci := 8) (f := 7) (t := 9) h0 rfl) rfl ?_
        refine Ev_p 2 (c' := (77, [some (.ref a0), some (.int x1), none, some (.int x3), some (.int x4)], [.ref a0, .int x4, .ref (zrf (zrf a0 7) 0), .ref (zrf a0 8)])) rfl ?_
        refine Ez_gr (M := zM113) (ci := 8) (f := 7) (t := 9) rfl rfl h0 rfl ?_
        refine Ev_p 0 (c' := (80, [some (.ref a0), some (.int x1), none, some (.int x3), some (.int x4)], [.ref (zrf a0 7), .int x4, .ref (zrf (zrf a0 7) 0), .ref (zrf a0 8)])) rfl ?_
        refine Ez_gr (M := zM113) (ci := 9) (f := 0) (t := 2) rfl rfl (zty (ci := 8) (f := 7) (t := 9) h0 rfl) rfl ?_
        refine Ev_p 0 (c' := (83, [some (.ref a0), some (.int x1), none, some (.int x3), some (.int x4)], [.ref (zrf (zrf a0 7) 0), .int x4, .ref (zrf (zrf a0 7) 0), .ref (zrf a0 8)])) rfl ?_
        refine Ez_gr (M := zM113) (ci := 2) (f := 1) (t := 100) rfl rfl (zty (ci := 9) (f := 0) (t := 2) (zty (ci := 8) (f := 7) (t := 9) h0 rfl) rfl) rfl ?_
        refine Ev_p 1 (c' := (88, [some (.ref a0), some (.int x1), none, some (.int x3), some (.int x4)], [.int x4, .ref (zrf (zrf (zrf a0 7) 0) 1), .int x4, .ref (zrf (zrf a0 7) 0), .ref (zrf a0 8)])) rfl ?_
        refine Ez_al (M := zM113) rfl (zty (ci := 2) (f := 1) (t := 100) (zty (ci := 9) (f := 0) (t := 2) (zty (ci := 8) (f := 7) (t := 9) h0 rfl) rfl) rfl) hF (fun v3 hF => ?_)
        refine Ev_p 2 (c' := (91, [some (.ref a0), some (.int x1), none, some (.int x3), some (.int x4)], [.int (v3 + x3), .int x4, .ref (zrf (zrf a0 7) 0), .ref (zrf a0 8)])) rfl ?_
        refine Ez_cv (M := zM113) (As := [.ref (zrf a0 8), .ref (zrf (zrf a0 7) 0), .int x4, .int (v3 + x3)]) (st' := []) (am_site_v (y := 80) (k := 4) (ci := 2) rfl rfl (zrcv rfl (zty (ci := 8) (f := 8) (t := 2) h0 rfl) rfl)) (Nat.le_of_ble_eq_true rfl) (Nat.le_of_ble_eq_true rfl) rfl rfl (fun _ hF => zf80_ok hK (zty (ci := 8) (f := 8) (t := 2) h0 rfl) (zty (ci := 9) (f := 0) (t := 2) (zty (ci := 8) (f := 7) (t := 9) h0 rfl) rfl) hF) hF (fun s5 hF => ?_)
        refine Ev_p 2 (c' := (31, [some (.ref a0), some (.int x1), none, some (.int x3), some (.int (x4 + 1))], [])) rfl ?_
        exact ih hF
noncomputable def zf113 (a0 : Nat) (x1 : Int32) (x2 : Int32) (s : zS) : Option (zS) :=
  zgf s (zrf a0 8) 6 fun v1 =>
  zbv (zf80 (zrf a0 8) (zrf (zrf a0 7) 0) x1 x2 s) fun s3 =>
  zf113_31 a0 zfz x1 (v1 - x1) (x1 + 1) s3
theorem zf113_ok {K : cx_K} (hK : Kok K) {lg : Nat → Int64} {s' : zS} {a0 : Nat} (h0 : zsh a0 = 8) {x1 : Int32} {x2 : Int32} {s : zS} (hF : zf113 a0 x1 x2 s = some s') : Ct K 113 [.ref a0, .int x1, .int x2] (zmk lg s) (.inl none) (zmk lg s') 0 := by
  unfold zf113 at hF
  refine Ct_of hK nd_ok113 (mL := 5) (rt := none) rfl rfl (Nat.le_of_ble_eq_true rfl) zlen_le ?_
  refine Ev_p 1 (c' := (1, [some (.ref a0), some (.int x1), some (.int x2), none, none], [.ref a0])) rfl ?_
  refine Ez_gr (M := zM113) (ci := 8) (f := 8) (t := 2) rfl rfl h0 rfl ?_
  refine Ev_p 0 (c' := (4, [some (.ref a0), some (.int x1), some (.int x2), none, none], [.ref (zrf a0 8)])) rfl ?_
  refine Ez_gf (M := zM113) (ci := 2) (f := 6) rfl rfl (zty (ci := 8) (f := 8) (t := 2) h0 rfl) rfl hF (fun v1 hF => ?_)
  refine Ev_p 4 (c' := (11, [some (.ref a0), some (.int x1), some (.int x2), some (.int (v1 - x1)), none], [.ref a0])) rfl ?_
  refine Ez_gr (M := zM113) (ci := 8) (f := 8) (t := 2) rfl rfl h0 rfl ?_
  refine Ev_p 1 (c' := (15, [some (.ref a0), some (.int x1), some (.int x2), some (.int (v1 - x1)), none], [.ref a0, .ref (zrf a0 8)])) rfl ?_
  refine Ez_gr (M := zM113) (ci := 8) (f := 7) (t := 9) rfl rfl h0 rfl ?_
  refine Ev_p 0 (c' := (18, [some (.ref a0), some (.int x1), some (.int x2), some (.int (v1 - x1)), none], [.ref (zrf a0 7), .ref (zrf a0 8)])) rfl ?_
  refine Ez_gr (M := zM113) (ci := 9) (f := 0) (t := 2) rfl rfl (zty (ci := 8) (f := 7) (t := 9) h0 rfl) rfl ?_
  refine Ev_p 2 (c' := (23, [some (.ref a0), some (.int x1), some (.int x2), some (.int (v1 - x1)), none], [.int x2, .int x1, .ref (zrf (zrf a0 7) 0), .ref (zrf a0 8)])) rfl ?_
  refine Ez_cv (M := zM113) (As := [.ref (zrf a0 8), .ref (zrf (zrf a0 7) 0), .int x1, .int x2]) (st' := []) (am_site_v (y := 80) (k := 4) (ci := 2) rfl rfl (zrcv rfl (zty (ci := 8) (f := 8) (t := 2) h0 rfl) rfl)) (Nat.le_of_ble_eq_true rfl) (Nat.le_of_ble_eq_true rfl) rfl rfl (fun _ hF => zf80_ok hK (zty (ci := 8) (f := 8) (t := 2) h0 rfl) (zty (ci := 9) (f := 0) (t := 2) (zty (ci := 8) (f := 7) (t := 9) h0 rfl) rfl) hF) hF (fun s3 hF => ?_)
  refine Ev_p 4 (c' := (31, [some (.ref a0), some (.int x1), some (.int x2), some (.int (v1 - x1)), some (.int (x1 + 1))], [])) rfl ?_
  refine Ev_w (L' := [some (.ref a0), some (.int x1), none, some (.int (v1 - x1)), some (.int (x1 + 1))]) (zle_c (zle_c (zle_n (zle_c (zle_c zle_0))))) ?_
  exact zf113_31_ok hK h0 hF
