/-! The methods as functions, and that the machine goes so (printed by wip/gen/fgen.py). -/
set_option maxRecDepth 100000
set_option linter.unusedVariables false
-- PaperParcels$Elements.attribute(II)I
abbrev zM46 : ev_M := (am_in nd_i46, am_fl nd_f5, am_ct nd_k5, am_sl nd_ml nd_s46, fun _ => none, some .int)
noncomputable def zf46_7 (a0 : Nat)  : Nat → Int32 → Int32 → Int32 → zS → Option (Int32 × zS)
  | 0, _, _, _, _ => none
  | n + 1, x1, x2, x3, s =>
    zal s (zrf a0 5) x1 fun v1 =>
    if v1 ≤ x3 then
      some ((-1), s)
    else
      zal s (zrf a0 7) x3 fun v2 =>
      zbi (zf18 (zrf a0 0) v2 s) fun v3 s4 =>
      if ¬ v3 = x2 then
        zf46_7 a0 n x1 x2 (x3 + 1) s4
      else
        some (x3, s4)
theorem zf46_7_ok {K : cx_K} (hK : Kok K) {lg : Nat → Int64} {v : Int32} {s' : zS} {a0 : Nat} (h0 : zsh a0 = 5)   {n : Nat} : ∀ {x1 : Int32} {x2 : Int32} {x3 : Int32} {s : zS}, zf46_7 a0 n x1 x2 x3 s = some (v, s') → Ev K zM46 (7, [some (.ref a0), some (.int x1), some (.int x2), some (.int x3)], [], zmk lg s) 0 (.inl (some (.int v))) (zmk lg s') 0 := by
  induction n with
  | zero => intro x1 x2 x3 s hF; rw [zf46_7] at hF; cases hF
  | succ n ih =>
    intro x1 x2 x3 s hF
    rw [zf46_7] at hF
    refine Ev_p 2 (c' := (9, [some (.ref a0), some (.int x1), some (.int x2), some (.int x3)], [.ref a0, .int x3])) rfl ?_
    refine Ez_gr (M := zM46) (ci := 5) (f := 5) (t := 100) rfl rfl h0 rfl ?_
    refine Ev_p 1 (c' := (13, [some (.ref a0), some (.int x1), some (.int x2), some (.int x3)], [.int x1, .ref (zrf a0 5), .int x3])) rfl ?_
    refine Ez_al (M := zM46) rfl (zty (ci := 5) (f := 5) (t := 100) h0 rfl) hF (fun v1 hF => ?_)
    refine Ev_p 0 (c' := (14, [some (.ref a0), some (.int x1), some (.int x2), some (.int x3)], [.int v1, .int x3])) rfl ?_
    refine Ez_if (M := zM46) (b := v1 ≤ x3) rfl rfl hF (fun _ hF => ?_) (fun _ hF => ?_)
    · refine Ev_p 1 (c' := (43, [some (.ref a0), some (.int x1), some (.int x2), some (.int x3)], [.int (-1)])) rfl ?_
      exact Ez_ri (M := zM46) rfl rfl hF
    · refine Ev_p 1 (c' := (18, [some (.ref a0), some (.int x1), some (.int x2), some (.int x3)], [.ref a0])) rfl ?_
      refine Ez_gr (M := zM46) (ci := 5) (f := 0) (t := 1) rfl rfl h0 rfl ?_
      refine Ev_p 1 (c' := (22, [some (.ref a0), some (.int x1), some (.int x2), some (.int x3)], [.ref a0, .ref (zrf a0 0)])) rfl ?_
      refine Ez_gr (M := zM46) (ci := 5) (f := 7) (t := 100) rfl rfl h0 rfl ?_
      refine Ev_p 1 (c' := (26, [some (.ref a0), some (.int x1), some (.int x2), some (.int x3)], [.int x3, .ref (zrf a0 7), .ref (zrf a0 0)])) rfl ?_
      refine Ez_al (M := zM46) rfl (zty (ci := 5) (f := 7) (t := 100) h0 rfl) hF (fun v2 hF => ?_)
      refine Ev_p 0 (c' := (27, [some (.ref a0), some (.int x1), some (.int x2), some (.int x3)], [.int v2, .ref (zrf a0 0)])) rfl ?_
      refine Ez_ci (M := zM46) (As := [.ref (zrf a0 0), .int v2]) (st' := []) (am_site_v (y := 18) (k := 2) (ci := 1) rfl rfl (zrcv rfl (zty (ci := 5) (f := 0) (t := 1) h0 rfl) rfl)) (Nat.le_of_ble_eq_true rfl) (Nat.le_of_ble_eq_true rfl) rfl rfl (fun _ _ hF => zf18_ok hK (zty (ci := 5) (f := 0) (t := 1) h0 rfl) hF) hF (fun v3 s4 hF => ?_)
      refine Ev_p 1 (c' := (31, [some (.ref a0), some (.int x1), some (.int x2), some (.int x3)], [.int x2, .int v3])) rfl ?_
      refine Ez_if (M := zM46) (b := ¬ v3 = x2) rfl rfl hF (fun _ hF => ?_) (fun _ hF => ?_)
      · refine Ev_p 2 (c' := (7, [some (.ref a0), some (.int x1), some (.int x2), some (.int (x3 + 1))], [])) rfl ?_
        exact ih hF
      · refine Ev_p 1 (c' := (35, [some (.ref a0), some (.int x1), some (.int x2), some (.int x3)], [.int x3])) rfl ?_
        exact Ez_ri (M := zM46) rfl rfl hF
noncomputable def zf46 (a0 : Nat) (x1 : Int32) (x2 : Int32) (s : zS) : Option (Int32 × zS) :=
  zal s (zrf a0 4) x1 fun v1 =>
  zf46_7 a0 zfz x1 x2 v1 s
theorem zf46_ok {K : cx_K} (hK : Kok K) {lg : Nat → Int64} {v : Int32} {s' : zS} {a0 : Nat} (h0 : zsh a0 = 5) {x1 : Int32} {x2 : Int32} {s : zS} (hF : zf46 a0 x1 x2 s = some (v, s')) : Ct K 46 [.ref a0, .int x1, .int x2] (zmk lg s) (.inl (some (.int v))) (zmk lg s') 0 := by
  unfold zf46 at hF
  refine Ct_of hK nd_ok46 (mL := 4) (rt := some .int) rfl rfl (Nat.le_of_ble_eq_true rfl) zlen_le ?_
  refine Ev_p 1 (c' := (1, [some (.ref a0), some (.int x1), some (.int x2), none], [.ref a0])) rfl ?_
  refine Ez_gr (M := zM46) (ci := 5) (f := 4) (t := 100) rfl rfl h0 rfl ?_
  refine Ev_p 1 (c' := (5, [some (.ref a0), some (.int x1), some (.int x2), none], [.int x1, .ref (zrf a0 4)])) rfl ?_
  refine Ez_al (M := zM46) rfl (zty (ci := 5) (f := 4) (t := 100) h0 rfl) hF (fun v1 hF => ?_)
  refine Ev_p 1 (c' := (7, [some (.ref a0), some (.int x1), some (.int x2), some (.int v1)], [])) rfl ?_
  exact zf46_7_ok hK h0 hF
-- PaperParcels$Elements.take(I)Z
abbrev zM47 : ev_M := (am_in nd_i47, am_fl nd_f5, am_ct nd_k5, am_sl nd_ml nd_s47, fun _ => none, some .boolean)
noncomputable def zf47 (a0 : Nat) (x1 : Int32) (s : zS) : Option (Int32 × zS) :=
  zgf s a0 11 fun v1 =>
  zbi (zf18 (zrf a0 0) v1 s) fun v2 s3 =>
  if v2 = x1 then
    zgf s3 a0 11 fun v4 =>
    zpf s3 a0 11 (v4 + 1) fun s5 =>
    zrb 1 s5
  else
    zrb 0 s3
theorem zf47_ok {K : cx_K} (hK : Kok K) {lg : Nat → Int64} {v : Int32} {s' : zS} {a0 : Nat} (h0 : zsh a0 = 5) {x1 : Int32} {s : zS} (hF : zf47 a0 x1 s = some (v, s')) : Ct K 47 [.ref a0, .int x1] (zmk lg s) (.inl (some (.int v))) (zmk lg s') 0 := by
  unfold zf47 at hF
  refine Ct_of hK nd_ok47 (mL := 2) (rt := some .boolean) rfl rfl (Nat.le_of_ble_eq_true rfl) zlen_le ?_
  refine Ev_p 1 (c' := (1, [some (.ref a0), some (.int x1)], [.ref a0])) rfl ?_
  refine Ez_gr (M := zM47) (ci := 5) (f := 0) (t := 1) rfl rfl h0 rfl ?_
  refine Ev_p 1 (c' := (5, [some (.ref a0), some (.int x1)], [.ref a0, .ref (zrf a0 0)])) rfl ?_
  refine Ez_gf (M := zM47) (ci := 5) (f := 11) rfl rfl h0 rfl hF (fun v1 hF => ?_)
  refine Ev_p 0 (c' := (8, [some (.ref a0), some (.int x1)], [.int v1, .ref (zrf a0 0)])) rfl ?_
  refine Ez_ci (M := zM47) (As := [.ref (zrf a0 0), .int v1]) (st' := []) (am_site_v (y := 18) (k := 2) (ci := 1) rfl rfl (zrcv rfl (zty (ci := 5) (f := 0) (t := 1) h0 rfl) rfl)) (Nat.le_of_ble_eq_true rfl) (Nat.le_of_ble_eq_true rfl) rfl rfl (fun _ _ hF => zf18_ok hK (zty (ci := 5) (f := 0) (t := 1) h0 rfl) hF) hF (fun v2 s3 hF => ?_)
  refine Ev_p 1 (c' := (12, [some (.ref a0), some (.int x1)], [.int x1, .int v2])) rfl ?_
  refine Ez_if (M := zM47) (b := v2 = x1) rfl rfl hF (fun _ hF => ?_) (fun _ hF => ?_)
  · refine Ev_p 2 (c' := (19, [some (.ref a0), some (.int x1)], [.ref a0, .ref a0])) rfl ?_
    refine Ez_gf (M := zM47) (ci := 5) (f := 11) rfl rfl h0 rfl hF (fun v4 hF => ?_)
    refine Ev_p 2 (c' := (24, [some (.ref a0), some (.int x1)], [.int (v4 + 1), .ref a0])) rfl ?_
    refine Ez_pf (M := zM47) (ci := 5) (f := 11) rfl rfl h0 rfl hF (fun s5 hF => ?_)
    refine Ev_p 1 (c' := (28, [some (.ref a0), some (.int x1)], [.int 1])) rfl ?_
    exact Ez_rb (M := zM47) rfl rfl hF
  · refine Ev_p 1 (c' := (16, [some (.ref a0), some (.int x1)], [.int 0])) rfl ?_
    exact Ez_rb (M := zM47) rfl rfl hF
-- PaperParcels.isCapital(I)Z
abbrev zM49 : ev_M := (am_in nd_i49, am_fl nd_f0, am_ct nd_k0, am_sl nd_ml nd_s49, fun _ => none, some .boolean)
noncomputable def zf49 (x0 : Int32) (s : zS) : Option (Int32 × zS) :=
  if x0 < 65 then
    zrb 0 s
  else
    if 90 < x0 then
      zrb 0 s
    else
      zrb 1 s
theorem zf49_ok {K : cx_K} (hK : Kok K) {lg : Nat → Int64} {v : Int32} {s' : zS}   {x0 : Int32} {s : zS} (hF : zf49 x0 s = some (v, s')) : Ct K 49 [.int x0] (zmk lg s) (.inl (some (.int v))) (zmk lg s') 0 := by
  unfold zf49 at hF
  refine Ct_of hK nd_ok49 (mL := 1) (rt := some .boolean) rfl rfl (Nat.le_of_ble_eq_true rfl) zlen_le ?_
  refine Ev_p 2 (c' := (3, [some (.int x0)], [.int 65, .int x0])) rfl ?_
  refine Ez_if (M := zM49) (b := x0 < 65) rfl rfl hF (fun _ hF => ?_) (fun _ hF => ?_)
  · refine Ev_p 1 (c' := (17, [some (.int x0)], [.int 0])) rfl ?_
    exact Ez_rb (M := zM49) rfl rfl hF
  · refine Ev_p 2 (c' := (9, [some (.int x0)], [.int 90, .int x0])) rfl ?_
    refine Ez_if (M := zM49) (b := 90 < x0) rfl rfl hF (fun _ hF => ?_) (fun _ hF => ?_)
    · refine Ev_p 1 (c' := (17, [some (.int x0)], [.int 0])) rfl ?_
      exact Ez_rb (M := zM49) rfl rfl hF
    · refine Ev_p 2 (c' := (17, [some (.int x0)], [.int 1])) rfl ?_
      exact Ez_rb (M := zM49) rfl rfl hF
-- PaperParcels$Elements.isOfValue(I)Z
abbrev zM48 : ev_M := (am_in nd_i48, am_fl nd_f5, am_ct nd_k5, am_sl nd_ml nd_s48, fun _ => none, some .boolean)
noncomputable def zf48 (x0 : Int32) (s : zS) : Option (Int32 × zS) :=
  zbi (zf49 x0 s) fun v1 s2 =>
  if ¬ v1 = 0 then
    zrb 1 s2
  else
    zbi (zf43 x0 s2) fun v3 s4 =>
    if ¬ v3 = 0 then
      zrb 1 s4
    else
      zbi (zf29 x0 s4) fun v5 s6 =>
      if v5 = 0 then
        zrb 0 s6
      else
        zrb 1 s6
theorem zf48_ok {K : cx_K} (hK : Kok K) {lg : Nat → Int64} {v : Int32} {s' : zS}   {x0 : Int32} {s : zS} (hF : zf48 x0 s = some (v, s')) : Ct K 48 [.int x0] (zmk lg s) (.inl (some (.int v))) (zmk lg s') 0 := by
  unfold zf48 at hF
  refine Ct_of hK nd_ok48 (mL := 1) (rt := some .boolean) rfl rfl (Nat.le_of_ble_eq_true rfl) zlen_le ?_
  refine Ev_p 1 (c' := (1, [some (.int x0)], [.int x0])) rfl ?_
  refine Ez_ci (M := zM48) (As := [.int x0]) (st' := []) (zsite_3 (y := 49) (k := 1) (ci := 0) rfl rfl) (Nat.le_of_ble_eq_true rfl) (Nat.le_of_ble_eq_true rfl) rfl rfl (fun _ _ hF => zf49_ok hK  hF) hF (fun v1 s2 hF => ?_)
  refine Ev_p 0 (c' := (4, [some (.int x0)], [.int v1])) rfl ?_
  refine Ez_if (M := zM48) (b := ¬ v1 = 0) rfl rfl hF (fun _ hF => ?_) (fun _ hF => ?_)
  · refine Ev_p 2 (c' := (26, [some (.int x0)], [.int 1])) rfl ?_
    exact Ez_rb (M := zM48) rfl rfl hF
  · refine Ev_p 1 (c' := (8, [some (.int x0)], [.int x0])) rfl ?_
    refine Ez_ci (M := zM48) (As := [.int x0]) (st' := []) (zsite_3 (y := 43) (k := 1) (ci := 0) rfl rfl) (Nat.le_of_ble_eq_true rfl) (Nat.le_of_ble_eq_true rfl) rfl rfl (fun _ _ hF => zf43_ok hK  hF) hF (fun v3 s4 hF => ?_)
    refine Ev_p 0 (c' := (11, [some (.int x0)], [.int v3])) rfl ?_
    refine Ez_if (M := zM48) (b := ¬ v3 = 0) rfl rfl hF (fun _ hF => ?_) (fun _ hF => ?_)
    · refine Ev_p 2 (c' := (26, [some (.int x0)], [.int 1])) rfl ?_
      exact Ez_rb (M := zM48) rfl rfl hF
    · refine Ev_p 1 (c' := (15, [some (.int x0)], [.int x0])) rfl ?_
      refine Ez_ci (M := zM48) (As := [.int x0]) (st' := []) (zsite_3 (y := 29) (k := 1) (ci := 0) rfl rfl) (Nat.le_of_ble_eq_true rfl) (Nat.le_of_ble_eq_true rfl) rfl rfl (fun _ _ hF => zf29_ok hK  hF) hF (fun v5 s6 hF => ?_)
      refine Ev_p 0 (c' := (18, [some (.int x0)], [.int v5])) rfl ?_
      refine Ez_if (M := zM48) (b := v5 = 0) rfl rfl hF (fun _ hF => ?_) (fun _ hF => ?_)
      · refine Ev_p 1 (c' := (26, [some (.int x0)], [.int 0])) rfl ?_
        exact Ez_rb (M := zM48) rfl rfl hF
      · refine Ev_p 2 (c' := (26, [some (.int x0)], [.int 1])) rfl ?_
        exact Ez_rb (M := zM48) rfl rfl hF
-- PaperParcels$Elements.takeAttribute(I)Z
abbrev zM45 : ev_M := (am_in nd_i45, am_fl nd_f5, am_ct nd_k5, am_sl nd_ml nd_s45, fun _ => none, some .boolean)
noncomputable def zf45_176 (a0 : Nat)   (s : zS) : Option (Int32 × zS) :=
  zbi (zf47 a0 34 s) fun v1 s2 =>
  zrb v1 s2
theorem zf45_176_ok {K : cx_K} (hK : Kok K) {lg : Nat → Int64} {v : Int32} {s' : zS} {a0 : Nat} (h0 : zsh a0 = 5)     {s : zS} (hF : zf45_176 a0 s = some (v, s')) : Ev K zM45 (176, [some (.ref a0), none, none, none, none], [], zmk lg s) 0 (.inl (some (.int v))) (zmk lg s') 0 := by
  unfold zf45_176 at hF
  refine Ev_p 2 (c' := (179, [some (.ref a0), none, none, none, none], [.int 34, .ref a0])) rfl ?_
  refine Ez_ci (M := zM45) (As := [.ref a0, .int 34]) (st' := []) (am_site_v (y := 47) (k := 2) (ci := 5) rfl rfl (zrcv rfl h0 rfl)) (Nat.le_of_ble_eq_true rfl) (Nat.le_of_ble_eq_true rfl) rfl rfl (fun _ _ hF => zf47_ok hK h0 hF) hF (fun v1 s2 hF => ?_)
  refine Ev_p 0 (c' := (182, [some (.ref a0), none, none, none, none], [.int v1])) rfl ?_
  exact Ez_rb (M := zM45) rfl rfl hF
noncomputable def zf45_125 (a0 : Nat)  : Nat → Int32 → Int32 → zS → Option (Int32 × zS)
  | 0, _, _, _ => none
  | n + 1, x3, x4, s =>
    if 300 ≤ x4 then
      zf45_176 a0 s
    else
      zgf s a0 11 fun v1 =>
      zbi (zf18 (zrf a0 0) v1 s) fun v2 s3 =>
      zbi (zf48 v2 s3) fun v4 s5 =>
      if v4 = 0 then
        zf45_176 a0 s5
      else
        zal s5 (zrf a0 8) x3 fun v6 =>
        zas s5 (zrf a0 8) x3 (v6 + 1) fun s7 =>
        zgf s7 a0 11 fun v8 =>
        zpf s7 a0 11 (v8 + 1) fun s9 =>
        zf45_125 a0 n x3 (x4 + 1) s9
theorem zf45_125_ok {K : cx_K} (hK : Kok K) {lg : Nat → Int64} {v : Int32} {s' : zS} {a0 : Nat} (h0 : zsh a0 = 5)   {n : Nat} : ∀ {x3 : Int32} {x4 : Int32} {s : zS}, zf45_125 a0 n x3 x4 s = some (v, s') → Ev K zM45 (125, [some (.ref a0), none, none, some (.int x3), some (.int x4)], [], zmk lg s) 0 (.inl (some (.int v))) (zmk lg s') 0 := by
  induction n with
  | zero => intro x3 x4 s hF; rw [zf45_125] at hF; cases hF
  | succ n ih =>
    intro x3 x4 s hF
    rw [zf45_125] at hF
    refine Ev_p 2 (c' := (130, [some (.ref a0), none, none, some (.int x3), some (.int x4)], [.int 300, .int x4])) rfl ?_
    refine Ez_if (M := zM45) (b := 300 ≤ x4) rfl rfl hF (fun _ hF => ?_) (fun _ hF => ?_)
    · refine Ev_p 0 (c' := (176, [some (.ref a0), none, none, some (.int x3), some (.int x4)], [])) rfl ?_
      refine Ev_w (L' := [some (.ref a0), none, none, none, none]) (zle_c (zle_c (zle_c (zle_n (zle_n zle_0))))) ?_
      exact zf45_176_ok hK h0 hF
    · refine Ev_p 1 (c' := (134, [some (.ref a0), none, none, some (.int x3), some (.int x4)], [.ref a0])) rfl ?_
      refine Ez_gr (M := zM45) (ci := 5) (f := 0) (t := 1) rfl rfl h0 rfl ?_
      refine Ev_p 1 (c' := (138, [some (.ref a0), none, none, some (.int x3), some (.int x4)], [.ref a0, .ref (zrf a0 0)])) rfl ?_
      refine Ez_gf (M := zM45) (ci := 5) (f := 11) rfl rfl h0 rfl hF (fun v1 hF => ?_)
      refine Ev_p 0 (c' := (141, [some (.ref a0), none, none, some (.int x3), some (.int x4)], [.int v1, .ref (zrf a0 0)])) rfl ?_
      refine Ez_ci (M := zM45) (As := [.ref (zrf a0 0), .int v1]) (st' := []) (am_site_v (y := 18) (k := 2) (ci := 1) rfl rfl (zrcv rfl (zty (ci := 5) (f := 0) (t := 1) h0 rfl) rfl)) (Nat.le_of_ble_eq_true rfl) (Nat.le_of_ble_eq_true rfl) rfl rfl (fun _ _ hF => zf18_ok hK (zty (ci := 5) (f := 0) (t := 1) h0 rfl) hF) hF (fun v2 s3 hF => ?_)
      refine Ev_p 0 (c' := (144, [some (.ref a0), none, none, some (.int x3), some (.int x4)], [.int v2])) rfl ?_
      refine Ez_ci (M := zM45) (As := [.int v2]) (st' := []) (zsite_0 (y := 48) (k := 1) (ci := 5) rfl rfl) (Nat.le_of_ble_eq_true rfl) (Nat.le_of_ble_eq_true rfl) rfl rfl (fun _ _ hF => zf48_ok hK  hF) hF (fun v4 s5 hF => ?_)
      refine Ev_p 0 (c' := (147, [some (.ref a0), none, none, some (.int x3), some (.int x4)], [.int v4])) rfl ?_
      refine Ez_if (M := zM45) (b := v4 = 0) rfl rfl hF (fun _ hF => ?_) (fun _ hF => ?_)
      · refine Ev_p 0 (c' := (176, [some (.ref a0), none, none, some (.int x3), some (.int x4)], [])) rfl ?_
        refine Ev_w (L' := [some (.ref a0), none, none, none, none]) (zle_c (zle_c (zle_c (zle_n (zle_n zle_0))))) ?_
        exact zf45_176_ok hK h0 hF
      · refine Ev_p 1 (c' := (151, [some (.ref a0), none, none, some (.int x3), some (.int x4)], [.ref a0])) rfl ?_
        refine Ez_gr (M := zM45) (ci := 5) (f := 8) (t := 100) rfl rfl h0 rfl ?_
        refine Ev_p 2 (c' := (156, [some (.ref a0), none, none, some (.int x3), some (.int x4)], [.int x3, .ref (zrf a0 8), .int x3, .ref (zrf a0 8)])) rfl ?_
        refine Ez_al (M := zM45) rfl (zty (ci := 5) (f := 8) (t := 100) h0 rfl) hF (fun v6 hF => ?_)
        refine Ev_p 2 (c' := (159, [some (.ref a0), none, none, some (.int x3), some (.int x4)], [.int (v6 + 1), .int x3, .ref (zrf a0 8)])) rfl ?_
        refine Ez_as (M := zM45) rfl (zty (ci := 5) (f := 8) (t := 100) h0 rfl) hF (fun s7 hF => ?_)
        refine Ev_p 2 (c' := (162, [some (.ref a0), none, none, some (.int x3), some (.int x4)], [.ref a0, .ref a0])) rfl ?_
        refine Ez_gf (M := zM45) (ci := 5) (f := 11) rfl rfl h0 rfl hF (fun v8 hF => ?_)
        refine Ev_p 2 (c' := (167, [some (.ref a0), none, none, some (.int x3), some (.int x4)], [.int (v8 + 1), .ref a0])) rfl ?_
        refine Ez_pf (M := zM45) (ci := 5) (f := 11) rfl rfl h0 rfl hF (fun s9 hF => ?_)
        refine Ev_p 2 (c' := (125, [some (.ref a0), none, none, some (.int x3), some (.int (x4 + 1))], [])) rfl ?_
        exact ih hF
noncomputable def zf45 (a0 : Nat) (x1 : Int32) (s : zS) : Option (Int32 × zS) :=
  zgf s a0 11 fun v1 =>
  zpf s a0 11 (v1 + 1) fun s2 =>
  zgf s2 a0 11 fun v3 =>
  zbi (zf18 (zrf a0 0) v3 s2) fun v4 s5 =>
  zbi (zf43 v4 s5) fun v6 s7 =>
  if v6 = 0 then
    zrb 0 s7
  else
    zbi (zf46 a0 x1 v4 s7) fun v8 s9 =>
    if ¬ v8 = (-1) then
      zrb 0 s9
    else
      zgf s9 a0 9 fun v10 =>
      if ¬ v10 = 60 then
        zgf s9 a0 9 fun v11 =>
        zgf s9 a0 11 fun v12 =>
        zas s9 (zrf a0 7) v11 v12 fun s13 =>
        zas s13 (zrf a0 8) v11 0 fun s14 =>
        zgf s14 a0 9 fun v15 =>
        zpf s14 a0 9 (v15 + 1) fun s16 =>
        zgf s16 a0 9 fun v17 =>
        zas s16 (zrf a0 5) x1 v17 fun s18 =>
        zgf s18 a0 11 fun v19 =>
        zpf s18 a0 11 (v19 + 1) fun s20 =>
        zbi (zf47 a0 61 s20) fun v21 s22 =>
        if v21 = 0 then
          zrb 0 s22
        else
          zbi (zf47 a0 34 s22) fun v23 s24 =>
          if ¬ v23 = 0 then
            zf45_125 a0 zfz v11 0 s24
          else
            zrb 0 s24
      else
        zrb 0 s9
theorem zf45_ok {K : cx_K} (hK : Kok K) {lg : Nat → Int64} {v : Int32} {s' : zS} {a0 : Nat} (h0 : zsh a0 = 5) {x1 : Int32} {s : zS} (hF : zf45 a0 x1 s = some (v, s')) : Ct K 45 [.ref a0, .int x1] (zmk lg s) (.inl (some (.int v))) (zmk lg s') 0 := by
  unfold zf45 at hF
  refine Ct_of hK nd_ok45 (mL := 5) (rt := some .boolean) rfl rfl (Nat.le_of_ble_eq_true rfl) zlen_le ?_
  refine Ev_p 2 (c' := (2, [some (.ref a0), some (.int x1), none, none, none], [.ref a0, .ref a0])) rfl ?_
  refine Ez_gf (M := zM45) (ci := 5) (f := 11) rfl rfl h0 rfl hF (fun v1 hF => ?_)
  refine Ev_p 2 (c' := (7, [some (.ref a0), some (.int x1), none, none, none], [.int (v1 + 1), .ref a0])) rfl ?_
  refine Ez_pf (M := zM45) (ci := 5) (f := 11) rfl rfl h0 rfl hF (fun s2 hF => ?_)
  refine Ev_p 1 (c' := (11, [some (.ref a0), some (.int x1), none, none, none], [.ref a0])) rfl ?_
  refine Ez_gr (M := zM45) (ci := 5) (f := 0) (t := 1) rfl rfl h0 rfl ?_
  refine Ev_p 1 (c' := (15, [some (.ref a0), some (.int x1), none, none, none], [.ref a0, .ref (zrf a0 0)])) rfl ?_
  refine Ez_gf (M := zM45) (ci := 5) (f := 11) rfl rfl h0 rfl hF (fun v3 hF => ?_)
  refine Ev_p 0 (c' := (18, [some (.ref a0), some (.int x1), none, none, none], [.int v3, .ref (zrf a0 0)])) rfl ?_
  refine Ez_ci (M := zM45) (As := [.ref (zrf a0 0), .int v3]) (st' := []) (am_site_v (y := 18) (k := 2) (ci := 1) rfl rfl (zrcv rfl (zty (ci := 5) (f := 0) (t := 1) h0 rfl) rfl)) (Nat.le_of_ble_eq_true rfl) (Nat.le_of_ble_eq_true rfl) rfl rfl (fun _ _ hF => zf18_ok hK (zty (ci := 5) (f := 0) (t := 1) h0 rfl) hF) hF (fun v4 s5 hF => ?_)
  refine Ev_p 2 (c' := (23, [some (.ref a0), some (.int x1), some (.int v4), none, none], [.int v4])) rfl ?_
  refine Ez_ci (M := zM45) (As := [.int v4]) (st' := []) (zsite_3 (y := 43) (k := 1) (ci := 0) rfl rfl) (Nat.le_of_ble_eq_true rfl) (Nat.le_of_ble_eq_true rfl) rfl rfl (fun _ _ hF => zf43_ok hK  hF) hF (fun v6 s7 hF => ?_)
  refine Ev_p 0 (c' := (26, [some (.ref a0), some (.int x1), some (.int v4), none, none], [.int v6])) rfl ?_
  refine Ez_if (M := zM45) (b := v6 = 0) rfl rfl hF (fun _ hF => ?_) (fun _ hF => ?_)
  · refine Ev_p 1 (c' := (49, [some (.ref a0), some (.int x1), some (.int v4), none, none], [.int 0])) rfl ?_
    exact Ez_rb (M := zM45) rfl rfl hF
  · refine Ev_p 3 (c' := (32, [some (.ref a0), some (.int x1), some (.int v4), none, none], [.int v4, .int x1, .ref a0])) rfl ?_
    refine Ez_ci (M := zM45) (As := [.ref a0, .int x1, .int v4]) (st' := []) (am_site_v (y := 46) (k := 3) (ci := 5) rfl rfl (zrcv rfl h0 rfl)) (Nat.le_of_ble_eq_true rfl) (Nat.le_of_ble_eq_true rfl) rfl rfl (fun _ _ hF => zf46_ok hK h0 hF) hF (fun v8 s9 hF => ?_)
    refine Ev_p 1 (c' := (36, [some (.ref a0), some (.int x1), some (.int v4), none, none], [.int (-1), .int v8])) rfl ?_
    refine Ez_if (M := zM45) (b := ¬ v8 = (-1)) rfl rfl hF (fun _ hF => ?_) (fun _ hF => ?_)
    · refine Ev_p 1 (c' := (49, [some (.ref a0), some (.int x1), some (.int v4), none, none], [.int 0])) rfl ?_
      exact Ez_rb (M := zM45) rfl rfl hF
    · refine Ev_p 1 (c' := (40, [some (.ref a0), some (.int x1), some (.int v4), none, none], [.ref a0])) rfl ?_
      refine Ez_gf (M := zM45) (ci := 5) (f := 9) rfl rfl h0 rfl hF (fun v10 hF => ?_)
      refine Ev_p 1 (c' := (45, [some (.ref a0), some (.int x1), some (.int v4), none, none], [.int 60, .int v10])) rfl ?_
      refine Ez_if (M := zM45) (b := ¬ v10 = 60) rfl rfl hF (fun _ hF => ?_) (fun _ hF => ?_)
      · refine Ev_p 1 (c' := (51, [some (.ref a0), some (.int x1), some (.int v4), none, none], [.ref a0])) rfl ?_
        refine Ez_gf (M := zM45) (ci := 5) (f := 9) rfl rfl h0 rfl hF (fun v11 hF => ?_)
        refine Ev_p 2 (c' := (56, [some (.ref a0), some (.int x1), some (.int v4), some (.int v11), none], [.ref a0])) rfl ?_
        refine Ez_gr (M := zM45) (ci := 5) (f := 7) (t := 100) rfl rfl h0 rfl ?_
        refine Ev_p 2 (c' := (61, [some (.ref a0), some (.int x1), some (.int v4), some (.int v11), none], [.ref a0, .int v11, .ref (zrf a0 7)])) rfl ?_
        refine Ez_gf (M := zM45) (ci := 5) (f := 11) rfl rfl h0 rfl hF (fun v12 hF => ?_)
        refine Ev_p 0 (c' := (64, [some (.ref a0), some (.int x1), some (.int v4), some (.int v11), none], [.int v12, .int v11, .ref (zrf a0 7)])) rfl ?_
        refine Ez_as (M := zM45) rfl (zty (ci := 5) (f := 7) (t := 100) h0 rfl) hF (fun s13 hF => ?_)
        refine Ev_p 1 (c' := (66, [some (.ref a0), some (.int x1), some (.int v4), some (.int v11), none], [.ref a0])) rfl ?_
        refine Ez_gr (M := zM45) (ci := 5) (f := 8) (t := 100) rfl rfl h0 rfl ?_
        refine Ev_p 2 (c' := (71, [some (.ref a0), some (.int x1), some (.int v4), some (.int v11), none], [.int 0, .int v11, .ref (zrf a0 8)])) rfl ?_
        refine Ez_as (M := zM45) rfl (zty (ci := 5) (f := 8) (t := 100) h0 rfl) hF (fun s14 hF => ?_)
        refine Ev_p 2 (c' := (74, [some (.ref a0), some (.int x1), some (.int v4), some (.int v11), none], [.ref a0, .ref a0])) rfl ?_
        refine Ez_gf (M := zM45) (ci := 5) (f := 9) rfl rfl h0 rfl hF (fun v15 hF => ?_)
        refine Ev_p 2 (c' := (79, [some (.ref a0), some (.int x1), some (.int v4), some (.int v11), none], [.int (v15 + 1), .ref a0])) rfl ?_
        refine Ez_pf (M := zM45) (ci := 5) (f := 9) rfl rfl h0 rfl hF (fun s16 hF => ?_)
        refine Ev_p 1 (c' := (83, [some (.ref a0), some (.int x1), some (.int v4), some (.int v11), none], [.ref a0])) rfl ?_
        refine Ez_gr (M := zM45) (ci := 5) (f := 5) (t := 100) rfl rfl h0 rfl ?_
        refine Ev_p 2 (c' := (88, [some (.ref a0), some (.int x1), some (.int v4), some (.int v11), none], [.ref a0, .int x1, .ref (zrf a0 5)])) rfl ?_
        refine Ez_gf (M := zM45) (ci := 5) (f := 9) rfl rfl h0 rfl hF (fun v17 hF => ?_)
        refine Ev_p 0 (c' := (91, [some (.ref a0), some (.int x1), some (.int v4), some (.int v11), none], [.int v17, .int x1, .ref (zrf a0 5)])) rfl ?_
        refine Ez_as (M := zM45) rfl (zty (ci := 5) (f := 5) (t := 100) h0 rfl) hF (fun s18 hF => ?_)
        refine Ev_p 2 (c' := (94, [some (.ref a0), some (.int x1), some (.int v4), some (.int v11), none], [.ref a0, .ref a0])) rfl ?_
        refine Ez_gf (M := zM45) (ci := 5) (f := 11) rfl rfl h0 rfl hF (fun v19 hF => ?_)
        refine Ev_p 2 (c' := (99, [some (.ref a0), some (.int x1), some (.int v4), some (.int v11), none], [.int (v19 + 1), .ref a0])) rfl ?_
        refine Ez_pf (M := zM45) (ci := 5) (f := 11) rfl rfl h0 rfl hF (fun s20 hF => ?_)
        refine Ev_p 2 (c' := (105, [some (.ref a0), some (.int x1), some (.int v4), some (.int v11), none], [.int 61, .ref a0])) rfl ?_
        refine Ez_ci (M := zM45) (As := [.ref a0, .int 61]) (st' := []) (am_site_v (y := 47) (k := 2) (ci := 5) rfl rfl (zrcv rfl h0 rfl)) (Nat.le_of_ble_eq_true rfl) (Nat.le_of_ble_eq_true rfl) rfl rfl (fun _ _ hF => zf47_ok hK h0 hF) hF (fun v21 s22 hF => ?_)
        refine Ev_p 0 (c' := (108, [some (.ref a0), some (.int x1), some (.int v4), some (.int v11), none], [.int v21])) rfl ?_
        refine Ez_if (M := zM45) (b := v21 = 0) rfl rfl hF (fun _ hF => ?_) (fun _ hF => ?_)
        · refine Ev_p 1 (c' := (121, [some (.ref a0), some (.int x1), some (.int v4), some (.int v11), none], [.int 0])) rfl ?_
          exact Ez_rb (M := zM45) rfl rfl hF
        · refine Ev_p 2 (c' := (114, [some (.ref a0), some (.int x1), some (.int v4), some (.int v11), none], [.int 34, .ref a0])) rfl ?_
          refine Ez_ci (M := zM45) (As := [.ref a0, .int 34]) (st' := []) (am_site_v (y := 47) (k := 2) (ci := 5) rfl rfl (zrcv rfl h0 rfl)) (Nat.le_of_ble_eq_true rfl) (Nat.le_of_ble_eq_true rfl) rfl rfl (fun _ _ hF => zf47_ok hK h0 hF) hF (fun v23 s24 hF => ?_)
          refine Ev_p 0 (c' := (117, [some (.ref a0), some (.int x1), some (.int v4), some (.int v11), none], [.int v23])) rfl ?_
          refine Ez_if (M := zM45) (b := ¬ v23 = 0) rfl rfl hF (fun _ hF => ?_) (fun _ hF => ?_)
          · refine Ev_p 2 (c' := (125, [some (.ref a0), some (.int x1), some (.int v4), some (.int v11), some (.int 0)], [])) rfl ?_
            refine Ev_w (L' := [some (.ref a0), none, none, some (.int v11), some (.int 0)]) (zle_c (zle_n (zle_n (zle_c (zle_c zle_0))))) ?_
            exact zf45_125_ok hK h0 hF
          · refine Ev_p 1 (c' := (121, [some (.ref a0), some (.int x1), some (.int v4), some (.int v11), none], [.int 0])) rfl ?_
            exact Ez_rb (M := zM45) rfl rfl hF
      · refine Ev_p 1 (c' := (49, [some (.ref a0), some (.int x1), some (.int v4), none, none], [.int 0])) rfl ?_
        exact Ez_rb (M := zM45) rfl rfl hF
-- PaperParcels$Elements.takeBegin()Z
abbrev zM42 : ev_M := (am_in nd_i42, am_fl nd_f5, am_ct nd_k5, am_sl nd_ml nd_s42, fun _ => none, some .boolean)
noncomputable def zf42_110 (a0 : Nat)  (x2 : Int32) (s : zS) : Option (Int32 × zS) :=
  zgf s a0 11 fun v1 =>
  zbi (zf18 (zrf a0 0) v1 s) fun v2 s3 =>
  if ¬ v2 = 47 then
    zpf s3 a0 12 x2 fun s4 =>
    zgf s4 a0 13 fun v5 =>
    zpf s4 a0 13 (v5 + 1) fun s6 =>
    zbi (zf47 a0 62 s6) fun v7 s8 =>
    zrb v7 s8
  else
    zgf s3 a0 11 fun v9 =>
    zpf s3 a0 11 (v9 + 1) fun s10 =>
    zbi (zf47 a0 62 s10) fun v11 s12 =>
    zrb v11 s12
theorem zf42_110_ok {K : cx_K} (hK : Kok K) {lg : Nat → Int64} {v : Int32} {s' : zS} {a0 : Nat} (h0 : zsh a0 = 5)   {x2 : Int32}  {s : zS} (hF : zf42_110 a0 x2 s = some (v, s')) : Ev K zM42 (110, [some (.ref a0), none, some (.int x2), none], [], zmk lg s) 0 (.inl (some (.int v))) (zmk lg s') 0 := by
  unfold zf42_110 at hF
  refine Ev_p 1 (c' := (111, [some (.ref a0), none, some (.int x2), none], [.ref a0])) rfl ?_
  refine Ez_gr (M := zM42) (ci := 5) (f := 0) (t := 1) rfl rfl h0 rfl ?_
  refine Ev_p 1 (c' := (115, [some (.ref a0), none, some (.int x2), none], [.ref a0, .ref (zrf a0 0)])) rfl ?_
  refine Ez_gf (M := zM42) (ci := 5) (f := 11) rfl rfl h0 rfl hF (fun v1 hF => ?_)
  refine Ev_p 0 (c' := (118, [some (.ref a0), none, some (.int x2), none], [.int v1, .ref (zrf a0 0)])) rfl ?_
  refine Ez_ci (M := zM42) (As := [.ref (zrf a0 0), .int v1]) (st' := []) (am_site_v (y := 18) (k := 2) (ci := 1) rfl rfl (zrcv rfl (zty (ci := 5) (f := 0) (t := 1) h0 rfl) rfl)) (Nat.le_of_ble_eq_true rfl) (Nat.le_of_ble_eq_true rfl) rfl rfl (fun _ _ hF => zf18_ok hK (zty (ci := 5) (f := 0) (t := 1) h0 rfl) hF) hF (fun v2 s3 hF => ?_)
  refine Ev_p 1 (c' := (123, [some (.ref a0), none, some (.int x2), none], [.int 47, .int v2])) rfl ?_
  refine Ez_if (M := zM42) (b := ¬ v2 = 47) rfl rfl hF (fun _ hF => ?_) (fun _ hF => ?_)
  · refine Ev_p 2 (c' := (145, [some (.ref a0), none, some (.int x2), none], [.int x2, .ref a0])) rfl ?_
    refine Ez_pf (M := zM42) (ci := 5) (f := 12) rfl rfl h0 rfl hF (fun s4 hF => ?_)
    refine Ev_p 2 (c' := (150, [some (.ref a0), none, some (.int x2), none], [.ref a0, .ref a0])) rfl ?_
    refine Ez_gf (M := zM42) (ci := 5) (f := 13) rfl rfl h0 rfl hF (fun v5 hF => ?_)
    refine Ev_p 2 (c' := (155, [some (.ref a0), none, some (.int x2), none], [.int (v5 + 1), .ref a0])) rfl ?_
    refine Ez_pf (M := zM42) (ci := 5) (f := 13) rfl rfl h0 rfl hF (fun s6 hF => ?_)
    refine Ev_p 2 (c' := (161, [some (.ref a0), none, some (.int x2), none], [.int 62, .ref a0])) rfl ?_
    refine Ez_ci (M := zM42) (As := [.ref a0, .int 62]) (st' := []) (am_site_v (y := 47) (k := 2) (ci := 5) rfl rfl (zrcv rfl h0 rfl)) (Nat.le_of_ble_eq_true rfl) (Nat.le_of_ble_eq_true rfl) rfl rfl (fun _ _ hF => zf47_ok hK h0 hF) hF (fun v7 s8 hF => ?_)
    refine Ev_p 0 (c' := (164, [some (.ref a0), none, some (.int x2), none], [.int v7])) rfl ?_
    exact Ez_rb (M := zM42) rfl rfl hF
  · refine Ev_p 2 (c' := (128, [some (.ref a0), none, some (.int x2), none], [.ref a0, .ref a0])) rfl ?_
    refine Ez_gf (M := zM42) (ci := 5) (f := 11) rfl rfl h0 rfl hF (fun v9 hF => ?_)
    refine Ev_p 2 (c' := (133, [some (.ref a0), none, some (.int x2), none], [.int (v9 + 1), .ref a0])) rfl ?_
    refine Ez_pf (M := zM42) (ci := 5) (f := 11) rfl rfl h0 rfl hF (fun s10 hF => ?_)
    refine Ev_p 2 (c' := (139, [some (.ref a0), none, some (.int x2), none], [.int 62, .ref a0])) rfl ?_
    refine Ez_ci (M := zM42) (As := [.ref a0, .int 62]) (st' := []) (am_site_v (y := 47) (k := 2) (ci := 5) rfl rfl (zrcv rfl h0 rfl)) (Nat.le_of_ble_eq_true rfl) (Nat.le_of_ble_eq_true rfl) rfl rfl (fun _ _ hF => zf47_ok hK h0 hF) hF (fun v11 s12 hF => ?_)
    refine Ev_p 0 (c' := (142, [some (.ref a0), none, some (.int x2), none], [.int v11])) rfl ?_
    exact Ez_rb (M := zM42) rfl rfl hF
noncomputable def zf42_72 (a0 : Nat)  : Nat → Int32 → Int32 → zS → Option (Int32 × zS)
  | 0, _, _, _ => none
  | n + 1, x2, x3, s =>
    if 60 ≤ x3 then
      zf42_110 a0 x2 s
    else
      zgf s a0 11 fun v1 =>
      zbi (zf18 (zrf a0 0) v1 s) fun v2 s3 =>
      if ¬ v2 = 32 then
        zf42_110 a0 x2 s3
      else
        zbi (zf45 a0 x2 s3) fun v4 s5 =>
        if ¬ v4 = 0 then
          zf42_72 a0 n x2 (x3 + 1) s5
        else
          zrb 0 s5
theorem zf42_72_ok {K : cx_K} (hK : Kok K) {lg : Nat → Int64} {v : Int32} {s' : zS} {a0 : Nat} (h0 : zsh a0 = 5)   {n : Nat} : ∀ {x2 : Int32} {x3 : Int32} {s : zS}, zf42_72 a0 n x2 x3 s = some (v, s') → Ev K zM42 (72, [some (.ref a0), none, some (.int x2), some (.int x3)], [], zmk lg s) 0 (.inl (some (.int v))) (zmk lg s') 0 := by
  induction n with
  | zero => intro x2 x3 s hF; rw [zf42_72] at hF; cases hF
  | succ n ih =>
    intro x2 x3 s hF
    rw [zf42_72] at hF
    refine Ev_p 2 (c' := (75, [some (.ref a0), none, some (.int x2), some (.int x3)], [.int 60, .int x3])) rfl ?_
    refine Ez_if (M := zM42) (b := 60 ≤ x3) rfl rfl hF (fun _ hF => ?_) (fun _ hF => ?_)
    · refine Ev_p 0 (c' := (110, [some (.ref a0), none, some (.int x2), some (.int x3)], [])) rfl ?_
      refine Ev_w (L' := [some (.ref a0), none, some (.int x2), none]) (zle_c (zle_c (zle_c (zle_n zle_0)))) ?_
      exact zf42_110_ok hK h0 hF
    · refine Ev_p 1 (c' := (79, [some (.ref a0), none, some (.int x2), some (.int x3)], [.ref a0])) rfl ?_
      refine Ez_gr (M := zM42) (ci := 5) (f := 0) (t := 1) rfl rfl h0 rfl ?_
      refine Ev_p 1 (c' := (83, [some (.ref a0), none, some (.int x2), some (.int x3)], [.ref a0, .ref (zrf a0 0)])) rfl ?_
      refine Ez_gf (M := zM42) (ci := 5) (f := 11) rfl rfl h0 rfl hF (fun v1 hF => ?_)
      refine Ev_p 0 (c' := (86, [some (.ref a0), none, some (.int x2), some (.int x3)], [.int v1, .ref (zrf a0 0)])) rfl ?_
      refine Ez_ci (M := zM42) (As := [.ref (zrf a0 0), .int v1]) (st' := []) (am_site_v (y := 18) (k := 2) (ci := 1) rfl rfl (zrcv rfl (zty (ci := 5) (f := 0) (t := 1) h0 rfl) rfl)) (Nat.le_of_ble_eq_true rfl) (Nat.le_of_ble_eq_true rfl) rfl rfl (fun _ _ hF => zf18_ok hK (zty (ci := 5) (f := 0) (t := 1) h0 rfl) hF) hF (fun v2 s3 hF => ?_)
      refine Ev_p 1 (c' := (91, [some (.ref a0), none, some (.int x2), some (.int x3)], [.int 32, .int v2])) rfl ?_
      refine Ez_if (M := zM42) (b := ¬ v2 = 32) rfl rfl hF (fun _ hF => ?_) (fun _ hF => ?_)
      · refine Ev_p 0 (c' := (110, [some (.ref a0), none, some (.int x2), some (.int x3)], [])) rfl ?_
        refine Ev_w (L' := [some (.ref a0), none, some (.int x2), none]) (zle_c (zle_c (zle_c (zle_n zle_0)))) ?_
        exact zf42_110_ok hK h0 hF
      · refine Ev_p 2 (c' := (96, [some (.ref a0), none, some (.int x2), some (.int x3)], [.int x2, .ref a0])) rfl ?_
        refine Ez_ci (M := zM42) (As := [.ref a0, .int x2]) (st' := []) (am_site_v (y := 45) (k := 2) (ci := 5) rfl rfl (zrcv rfl h0 rfl)) (Nat.le_of_ble_eq_true rfl) (Nat.le_of_ble_eq_true rfl) rfl rfl (fun _ _ hF => zf45_ok hK h0 hF) hF (fun v4 s5 hF => ?_)
        refine Ev_p 0 (c' := (99, [some (.ref a0), none, some (.int x2), some (.int x3)], [.int v4])) rfl ?_
        refine Ez_if (M := zM42) (b := ¬ v4 = 0) rfl rfl hF (fun _ hF => ?_) (fun _ hF => ?_)
        · refine Ev_p 2 (c' := (72, [some (.ref a0), none, some (.int x2), some (.int (x3 + 1))], [])) rfl ?_
          exact ih hF
        · refine Ev_p 1 (c' := (103, [some (.ref a0), none, some (.int x2), some (.int x3)], [.int 0])) rfl ?_
          exact Ez_rb (M := zM42) rfl rfl hF
noncomputable def zf42 (a0 : Nat) (s : zS) : Option (Int32 × zS) :=
  zgf s a0 6 fun v1 =>
  if v1 = 30 then
    zrb 0 s
  else
    zgf s a0 13 fun v2 =>
    if ¬ v2 = 8 then
      zgf s a0 11 fun v3 =>
      zgf s a0 11 fun v4 =>
      zpf s a0 11 (v4 + 1) fun s5 =>
      zgf s5 a0 11 fun v6 =>
      zbi (zf18 (zrf a0 0) v6 s5) fun v7 s8 =>
      zbi (zf43 v7 s8) fun v9 s10 =>
      if ¬ v9 = 0 then
        zbi (zf44 a0 v3 s10) fun v11 s12 =>
        zgf s12 a0 11 fun v13 =>
        zpf s12 a0 11 (v13 + 1) fun s14 =>
        zf42_72 a0 zfz v11 0 s14
      else
        zrb 0 s10
    else
      zrb 0 s
theorem zf42_ok {K : cx_K} (hK : Kok K) {lg : Nat → Int64} {v : Int32} {s' : zS} {a0 : Nat} (h0 : zsh a0 = 5)  {s : zS} (hF : zf42 a0 s = some (v, s')) : Ct K 42 [.ref a0] (zmk lg s) (.inl (some (.int v))) (zmk lg s') 0 := by
  unfold zf42 at hF
  refine Ct_of hK nd_ok42 (mL := 4) (rt := some .boolean) rfl rfl (Nat.le_of_ble_eq_true rfl) zlen_le ?_
  refine Ev_p 1 (c' := (1, [some (.ref a0), none, none, none], [.ref a0])) rfl ?_
  refine Ez_gf (M := zM42) (ci := 5) (f := 6) rfl rfl h0 rfl hF (fun v1 hF => ?_)
  refine Ev_p 1 (c' := (6, [some (.ref a0), none, none, none], [.int 30, .int v1])) rfl ?_
  refine Ez_if (M := zM42) (b := v1 = 30) rfl rfl hF (fun _ hF => ?_) (fun _ hF => ?_)
  · refine Ev_p 1 (c' := (19, [some (.ref a0), none, none, none], [.int 0])) rfl ?_
    exact Ez_rb (M := zM42) rfl rfl hF
  · refine Ev_p 1 (c' := (10, [some (.ref a0), none, none, none], [.ref a0])) rfl ?_
    refine Ez_gf (M := zM42) (ci := 5) (f := 13) rfl rfl h0 rfl hF (fun v2 hF => ?_)
    refine Ev_p 1 (c' := (15, [some (.ref a0), none, none, none], [.int 8, .int v2])) rfl ?_
    refine Ez_if (M := zM42) (b := ¬ v2 = 8) rfl rfl hF (fun _ hF => ?_) (fun _ hF => ?_)
    · refine Ev_p 1 (c' := (21, [some (.ref a0), none, none, none], [.ref a0])) rfl ?_
      refine Ez_gf (M := zM42) (ci := 5) (f := 11) rfl rfl h0 rfl hF (fun v3 hF => ?_)
      refine Ev_p 3 (c' := (27, [some (.ref a0), some (.int v3), none, none], [.ref a0, .ref a0])) rfl ?_
      refine Ez_gf (M := zM42) (ci := 5) (f := 11) rfl rfl h0 rfl hF (fun v4 hF => ?_)
      refine Ev_p 2 (c' := (32, [some (.ref a0), some (.int v3), none, none], [.int (v4 + 1), .ref a0])) rfl ?_
      refine Ez_pf (M := zM42) (ci := 5) (f := 11) rfl rfl h0 rfl hF (fun s5 hF => ?_)
      refine Ev_p 1 (c' := (36, [some (.ref a0), some (.int v3), none, none], [.ref a0])) rfl ?_
      refine Ez_gr (M := zM42) (ci := 5) (f := 0) (t := 1) rfl rfl h0 rfl ?_
      refine Ev_p 1 (c' := (40, [some (.ref a0), some (.int v3), none, none], [.ref a0, .ref (zrf a0 0)])) rfl ?_
      refine Ez_gf (M := zM42) (ci := 5) (f := 11) rfl rfl h0 rfl hF (fun v6 hF => ?_)
      refine Ev_p 0 (c' := (43, [some (.ref a0), some (.int v3), none, none], [.int v6, .ref (zrf a0 0)])) rfl ?_
      refine Ez_ci (M := zM42) (As := [.ref (zrf a0 0), .int v6]) (st' := []) (am_site_v (y := 18) (k := 2) (ci := 1) rfl rfl (zrcv rfl (zty (ci := 5) (f := 0) (t := 1) h0 rfl) rfl)) (Nat.le_of_ble_eq_true rfl) (Nat.le_of_ble_eq_true rfl) rfl rfl (fun _ _ hF => zf18_ok hK (zty (ci := 5) (f := 0) (t := 1) h0 rfl) hF) hF (fun v7 s8 hF => ?_)
      refine Ev_p 0 (c' := (46, [some (.ref a0), some (.int v3), none, none], [.int v7])) rfl ?_
      refine Ez_ci (M := zM42) (As := [.int v7]) (st' := []) (zsite_3 (y := 43) (k := 1) (ci := 0) rfl rfl) (Nat.le_of_ble_eq_true rfl) (Nat.le_of_ble_eq_true rfl) rfl rfl (fun _ _ hF => zf43_ok hK  hF) hF (fun v9 s10 hF => ?_)
      refine Ev_p 0 (c' := (49, [some (.ref a0), some (.int v3), none, none], [.int v9])) rfl ?_
      refine Ez_if (M := zM42) (b := ¬ v9 = 0) rfl rfl hF (fun _ hF => ?_) (fun _ hF => ?_)
      · refine Ev_p 2 (c' := (56, [some (.ref a0), some (.int v3), none, none], [.int v3, .ref a0])) rfl ?_
        refine Ez_ci (M := zM42) (As := [.ref a0, .int v3]) (st' := []) (am_site_v (y := 44) (k := 2) (ci := 5) rfl rfl (zrcv rfl h0 rfl)) (Nat.le_of_ble_eq_true rfl) (Nat.le_of_ble_eq_true rfl) rfl rfl (fun _ _ hF => zf44_ok hK h0 hF) hF (fun v11 s12 hF => ?_)
        refine Ev_p 3 (c' := (62, [some (.ref a0), some (.int v3), some (.int v11), none], [.ref a0, .ref a0])) rfl ?_
        refine Ez_gf (M := zM42) (ci := 5) (f := 11) rfl rfl h0 rfl hF (fun v13 hF => ?_)
        refine Ev_p 2 (c' := (67, [some (.ref a0), some (.int v3), some (.int v11), none], [.int (v13 + 1), .ref a0])) rfl ?_
        refine Ez_pf (M := zM42) (ci := 5) (f := 11) rfl rfl h0 rfl hF (fun s14 hF => ?_)
        refine Ev_p 2 (c' := (72, [some (.ref a0), some (.int v3), some (.int v11), some (.int 0)], [])) rfl ?_
        refine Ev_w (L' := [some (.ref a0), none, some (.int v11), some (.int 0)]) (zle_c (zle_n (zle_c (zle_c zle_0)))) ?_
        exact zf42_72_ok hK h0 hF
      · refine Ev_p 1 (c' := (53, [some (.ref a0), some (.int v3), none, none], [.int 0])) rfl ?_
        exact Ez_rb (M := zM42) rfl rfl hF
    · refine Ev_p 1 (c' := (19, [some (.ref a0), none, none, none], [.int 0])) rfl ?_
      exact Ez_rb (M := zM42) rfl rfl hF
-- PaperParcels$Elements.takeEnd()Z
abbrev zM50 : ev_M := (am_in nd_i50, am_fl nd_f5, am_ct nd_k5, am_sl nd_ml nd_s50, fun _ => none, some .boolean)
noncomputable def zf50 (a0 : Nat) (s : zS) : Option (Int32 × zS) :=
  zgf s a0 11 fun v1 =>
  zpf s a0 11 (v1 + 2) fun s2 =>
  zgf s2 a0 12 fun v3 =>
  zal s2 (zrf a0 1) v3 fun v4 =>
  zbi (zf47 a0 v4 s2) fun v5 s6 =>
  if v5 = 0 then
    zrb 0 s6
  else
    zbi (zf47 a0 62 s6) fun v7 s8 =>
    if ¬ v7 = 0 then
      zgf s8 a0 12 fun v9 =>
      zal s8 (zrf a0 3) v9 fun v10 =>
      zpf s8 a0 12 v10 fun s11 =>
      zgf s11 a0 13 fun v12 =>
      zpf s11 a0 13 (v12 - 1) fun s13 =>
      zrb 1 s13
    else
      zrb 0 s8
theorem zf50_ok {K : cx_K} (hK : Kok K) {lg : Nat → Int64} {v : Int32} {s' : zS} {a0 : Nat} (h0 : zsh a0 = 5)  {s : zS} (hF : zf50 a0 s = some (v, s')) : Ct K 50 [.ref a0] (zmk lg s) (.inl (some (.int v))) (zmk lg s') 0 := by
  unfold zf50 at hF
  refine Ct_of hK nd_ok50 (mL := 1) (rt := some .boolean) rfl rfl (Nat.le_of_ble_eq_true rfl) zlen_le ?_
  refine Ev_p 2 (c' := (2, [some (.ref a0)], [.ref a0, .ref a0])) rfl ?_
  refine Ez_gf (M := zM50) (ci := 5) (f := 11) rfl rfl h0 rfl hF (fun v1 hF => ?_)
  refine Ev_p 2 (c' := (7, [some (.ref a0)], [.int (v1 + 2), .ref a0])) rfl ?_
  refine Ez_pf (M := zM50) (ci := 5) (f := 11) rfl rfl h0 rfl hF (fun s2 hF => ?_)
  refine Ev_p 2 (c' := (12, [some (.ref a0)], [.ref a0, .ref a0])) rfl ?_
  refine Ez_gr (M := zM50) (ci := 5) (f := 1) (t := 100) rfl rfl h0 rfl ?_
  refine Ev_p 1 (c' := (16, [some (.ref a0)], [.ref a0, .ref (zrf a0 1), .ref a0])) rfl ?_
  refine Ez_gf (M := zM50) (ci := 5) (f := 12) rfl rfl h0 rfl hF (fun v3 hF => ?_)
  refine Ev_p 0 (c' := (19, [some (.ref a0)], [.int v3, .ref (zrf a0 1), .ref a0])) rfl ?_
  refine Ez_al (M := zM50) rfl (zty (ci := 5) (f := 1) (t := 100) h0 rfl) hF (fun v4 hF => ?_)
  refine Ev_p 0 (c' := (20, [some (.ref a0)], [.int v4, .ref a0])) rfl ?_
  refine Ez_ci (M := zM50) (As := [.ref a0, .int v4]) (st' := []) (am_site_v (y := 47) (k := 2) (ci := 5) rfl rfl (zrcv rfl h0 rfl)) (Nat.le_of_ble_eq_true rfl) (Nat.le_of_ble_eq_true rfl) rfl rfl (fun _ _ hF => zf47_ok hK h0 hF) hF (fun v5 s6 hF => ?_)
  refine Ev_p 0 (c' := (23, [some (.ref a0)], [.int v5])) rfl ?_
  refine Ez_if (M := zM50) (b := v5 = 0) rfl rfl hF (fun _ hF => ?_) (fun _ hF => ?_)
  · refine Ev_p 1 (c' := (36, [some (.ref a0)], [.int 0])) rfl ?_
    exact Ez_rb (M := zM50) rfl rfl hF
  · refine Ev_p 2 (c' := (29, [some (.ref a0)], [.int 62, .ref a0])) rfl ?_
    refine Ez_ci (M := zM50) (As := [.ref a0, .int 62]) (st' := []) (am_site_v (y := 47) (k := 2) (ci := 5) rfl rfl (zrcv rfl h0 rfl)) (Nat.le_of_ble_eq_true rfl) (Nat.le_of_ble_eq_true rfl) rfl rfl (fun _ _ hF => zf47_ok hK h0 hF) hF (fun v7 s8 hF => ?_)
    refine Ev_p 0 (c' := (32, [some (.ref a0)], [.int v7])) rfl ?_
    refine Ez_if (M := zM50) (b := ¬ v7 = 0) rfl rfl hF (fun _ hF => ?_) (fun _ hF => ?_)
    · refine Ev_p 2 (c' := (39, [some (.ref a0)], [.ref a0, .ref a0])) rfl ?_
      refine Ez_gr (M := zM50) (ci := 5) (f := 3) (t := 100) rfl rfl h0 rfl ?_
      refine Ev_p 1 (c' := (43, [some (.ref a0)], [.ref a0, .ref (zrf a0 3), .ref a0])) rfl ?_
      refine Ez_gf (M := zM50) (ci := 5) (f := 12) rfl rfl h0 rfl hF (fun v9 hF => ?_)
      refine Ev_p 0 (c' := (46, [some (.ref a0)], [.int v9, .ref (zrf a0 3), .ref a0])) rfl ?_
      refine Ez_al (M := zM50) rfl (zty (ci := 5) (f := 3) (t := 100) h0 rfl) hF (fun v10 hF => ?_)
      refine Ev_p 0 (c' := (47, [some (.ref a0)], [.int v10, .ref a0])) rfl ?_
      refine Ez_pf (M := zM50) (ci := 5) (f := 12) rfl rfl h0 rfl hF (fun s11 hF => ?_)
      refine Ev_p 2 (c' := (52, [some (.ref a0)], [.ref a0, .ref a0])) rfl ?_
      refine Ez_gf (M := zM50) (ci := 5) (f := 13) rfl rfl h0 rfl hF (fun v12 hF => ?_)
      refine Ev_p 2 (c' := (57, [some (.ref a0)], [.int (v12 - 1), .ref a0])) rfl ?_
      refine Ez_pf (M := zM50) (ci := 5) (f := 13) rfl rfl h0 rfl hF (fun s13 hF => ?_)
      refine Ev_p 1 (c' := (61, [some (.ref a0)], [.int 1])) rfl ?_
      exact Ez_rb (M := zM50) rfl rfl hF
    · refine Ev_p 1 (c' := (36, [some (.ref a0)], [.int 0])) rfl ?_
      exact Ez_rb (M := zM50) rfl rfl hF
-- PaperParcels$Elements.takeLetter(I)Z
abbrev zM51 : ev_M := (am_in nd_i51, am_fl nd_f5, am_ct nd_k5, am_sl nd_ml nd_s51, fun _ => none, some .boolean)
noncomputable def zf51 (a0 : Nat) (x1 : Int32) (s : zS) : Option (Int32 × zS) :=
  if x1 = 62 then
    zrb 0 s
  else
    if x1 = 38 then
      zrb 0 s
    else
      if ¬ x1 = 126 then
        zgf s a0 11 fun v1 =>
        zgf s a0 12 fun v2 =>
        zas s (zrf a0 10) v1 v2 fun s3 =>
        zgf s3 a0 11 fun v4 =>
        zpf s3 a0 11 (v4 + 1) fun s5 =>
        zrb 1 s5
      else
        zrb 0 s
theorem zf51_ok {K : cx_K} (hK : Kok K) {lg : Nat → Int64} {v : Int32} {s' : zS} {a0 : Nat} (h0 : zsh a0 = 5) {x1 : Int32} {s : zS} (hF : zf51 a0 x1 s = some (v, s')) : Ct K 51 [.ref a0, .int x1] (zmk lg s) (.inl (some (.int v))) (zmk lg s') 0 := by
  unfold zf51 at hF
  refine Ct_of hK nd_ok51 (mL := 2) (rt := some .boolean) rfl rfl (Nat.le_of_ble_eq_true rfl) zlen_le ?_
  refine Ev_p 2 (c' := (3, [some (.ref a0), some (.int x1)], [.int 62, .int x1])) rfl ?_
  refine Ez_if (M := zM51) (b := x1 = 62) rfl rfl hF (fun _ hF => ?_) (fun _ hF => ?_)
  · refine Ev_p 1 (c' := (19, [some (.ref a0), some (.int x1)], [.int 0])) rfl ?_
    exact Ez_rb (M := zM51) rfl rfl hF
  · refine Ev_p 2 (c' := (9, [some (.ref a0), some (.int x1)], [.int 38, .int x1])) rfl ?_
    refine Ez_if (M := zM51) (b := x1 = 38) rfl rfl hF (fun _ hF => ?_) (fun _ hF => ?_)
    · refine Ev_p 1 (c' := (19, [some (.ref a0), some (.int x1)], [.int 0])) rfl ?_
      exact Ez_rb (M := zM51) rfl rfl hF
    · refine Ev_p 2 (c' := (15, [some (.ref a0), some (.int x1)], [.int 126, .int x1])) rfl ?_
      refine Ez_if (M := zM51) (b := ¬ x1 = 126) rfl rfl hF (fun _ hF => ?_) (fun _ hF => ?_)
      · refine Ev_p 1 (c' := (21, [some (.ref a0), some (.int x1)], [.ref a0])) rfl ?_
        refine Ez_gr (M := zM51) (ci := 5) (f := 10) (t := 100) rfl rfl h0 rfl ?_
        refine Ev_p 1 (c' := (25, [some (.ref a0), some (.int x1)], [.ref a0, .ref (zrf a0 10)])) rfl ?_
        refine Ez_gf (M := zM51) (ci := 5) (f := 11) rfl rfl h0 rfl hF (fun v1 hF => ?_)
        refine Ev_p 1 (c' := (29, [some (.ref a0), some (.int x1)], [.ref a0, .int v1, .ref (zrf a0 10)])) rfl ?_
        refine Ez_gf (M := zM51) (ci := 5) (f := 12) rfl rfl h0 rfl hF (fun v2 hF => ?_)
        refine Ev_p 0 (c' := (32, [some (.ref a0), some (.int x1)], [.int v2, .int v1, .ref (zrf a0 10)])) rfl ?_
        refine Ez_as (M := zM51) rfl (zty (ci := 5) (f := 10) (t := 100) h0 rfl) hF (fun s3 hF => ?_)
        refine Ev_p 2 (c' := (35, [some (.ref a0), some (.int x1)], [.ref a0, .ref a0])) rfl ?_
        refine Ez_gf (M := zM51) (ci := 5) (f := 11) rfl rfl h0 rfl hF (fun v4 hF => ?_)
        refine Ev_p 2 (c' := (40, [some (.ref a0), some (.int x1)], [.int (v4 + 1), .ref a0])) rfl ?_
        refine Ez_pf (M := zM51) (ci := 5) (f := 11) rfl rfl h0 rfl hF (fun s5 hF => ?_)
        refine Ev_p 1 (c' := (44, [some (.ref a0), some (.int x1)], [.int 1])) rfl ?_
        exact Ez_rb (M := zM51) rfl rfl hF
      · refine Ev_p 1 (c' := (19, [some (.ref a0), some (.int x1)], [.int 0])) rfl ?_
        exact Ez_rb (M := zM51) rfl rfl hF
